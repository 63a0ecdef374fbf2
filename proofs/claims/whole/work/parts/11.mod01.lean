theorem hdX12_addStroke : yX12_addStroke.cls = RX12 ∧ yX12_addStroke.cls ≠ "java/lang/invoke/MethodHandle" ∧ yX12_addStroke.cls ≠ "java/lang/invoke/VarHandle" ∧ (parseMethodDescriptor yX12_addStroke.desc).map (fun d => d.parameters.length) = some 1 := by decide +kernel
theorem fX12_addStroke_7 : Cond.fieldLink RX12 7 RX12 "z" "[I" ∈ wsX12_addStroke := by decide +kernel
theorem iX12_addStroke_X12 : ∀ w ∈ u_ws RX12 TX12 14, w ∈ wsX12_addStroke := by decide +kernel
def wX12_addStroke (p1 : Int32) (P : (Nat → Int32) → Int32 → (Nat → Int32) → Prop) (z : Nat → Int32) (many : Int32) (line : Nat → Int32) : Prop := vp_in 337 1317 ∧ vp_in (338 + (z (337 : Int32).toNatClampNeg)) 1317 ∧ ∀ z_17 : Nat → Int32, z_17 = upd z (338 + (z (337 : Int32).toNatClampNeg)).toNatClampNeg p1 → vp_in 337 1317 ∧ vp_in 337 1317 ∧ ∀ z_29 : Nat → Int32, z_29 = upd z_17 (337 : Int32).toNatClampNeg ((z_17 (337 : Int32).toNatClampNeg) + 1) → wX12_translate (fun z_31 many_31 line_31 => P z_31 many_31 line_31) z_29 many line
set_option maxHeartbeats 4000000 in
set_option maxRecDepth 100000 in
theorem kX12_addStroke (l : Launch) (g : kT) (a_this : Nat) (a_this_z : Nat) (a_this_saved : Nat) (a_this_text : Nat) (a_this_line : Nat) (a_this_aside : Nat) (a_this_read : Nat) (a_this_fewest : Nat) (thrown : Int32) (z : Nat → Int32) (saves : Int32) (saved : Nat → Int32) (length : Int32) (text : Nat → Int32) (many : Int32) (line : Nat → Int32) (aside : Nat → Int32) (isWord : Int32) (entries : Int32) (rdA : Nat → Int32) (fewest : Nat → Int32) (h : Int64) (p1 : Int32) (P : (Nat → Int32) → Int32 → (Nat → Int32) → Prop) (hw : wX12_addStroke p1 P z many line) : Kv3 l g yX12_addStroke wsX12_addStroke 4 83 0 0 [.ref a_this, .int p1] (gX12 g a_this a_this_z a_this_saved a_this_text a_this_line a_this_aside a_this_read a_this_fewest thrown z saves saved length text many line aside isWord entries rdA fewest h) P (fun z many line => (gX12 g a_this a_this_z a_this_saved a_this_text a_this_line a_this_aside a_this_read a_this_fewest thrown z saves saved length text many line aside isWord entries rdA fewest h)) := by
  refine Kv3.mk (cc := cX12_addStroke) (nL := 2) (by decide +kernel) rfl (Nat.le_of_ble_eq_true rfl) ?_
  intro p e s m below meth c A Q ls F hl V ret _
  have hx := F.x
  have hb := F.b
  have hl : lv_has ls 2 [(0, .ref a_this), (1, .int p1)] := hl
  refine lv_aload_n hx hb dX12_addStroke_0 rfl (lv_at hl 0 rfl) ?_
  refine kget F V 8 1 0 rfl rfl iX12_addStroke_X12 fX12_addStroke_7 (by decide) rfl rfl dX12_addStroke_1 ?_
  refine lv_sipush (v := 338) hx hb dX12_addStroke_4 (by decide) ?_
  refine lv_aload_n hx hb dX12_addStroke_7 rfl (lv_at hl 0 rfl) ?_
  refine kget F V 8 1 0 rfl rfl iX12_addStroke_X12 fX12_addStroke_7 (by decide) rfl rfl dX12_addStroke_8 ?_
  refine lv_sipush (v := 337) hx hb dX12_addStroke_11 (by decide) ?_
  refine kiald F V 1 rfl hw.1 dX12_addStroke_14 ?_
  have hw := hw.2
  refine lv_iadd hx hb dX12_addStroke_15 ?_
  refine lv_iload_n hx hb dX12_addStroke_16 rfl (lv_at hl 1 rfl) ?_
  refine kiast F V 1 rfl hw.1 dX12_addStroke_17 (fun z_17 ez_17 H locs V => ?_)
  have hw := hw.2 z_17 ez_17
  have V : VW g A s.heap H locs (gX12 g a_this a_this_z a_this_saved a_this_text a_this_line a_this_aside a_this_read a_this_fewest thrown z_17 saves saved length text many line aside isWord entries rdA fewest h) := V
  refine lv_aload_n hx hb dX12_addStroke_18 rfl (lv_at hl 0 rfl) ?_
  refine kget F V 8 1 0 rfl rfl iX12_addStroke_X12 fX12_addStroke_7 (by decide) rfl rfl dX12_addStroke_19 ?_
  refine lv_sipush (v := 337) hx hb dX12_addStroke_22 (by decide) ?_
  refine lv_dup2_11 hx hb dX12_addStroke_25 rfl rfl ?_
  refine kiald F V 1 rfl hw.1 dX12_addStroke_26 ?_
  have hw := hw.2
  refine lv_iconst (v := 1) hx hb dX12_addStroke_27 (by decide) ?_
  refine lv_iadd hx hb dX12_addStroke_28 ?_
  refine kiast F V 1 rfl hw.1 dX12_addStroke_29 (fun z_29 ez_29 H locs V => ?_)
  have hw := hw.2 z_29 ez_29
  have V : VW g A s.heap H locs (gX12 g a_this a_this_z a_this_saved a_this_text a_this_line a_this_aside a_this_read a_this_fewest thrown z_29 saves saved length text many line aside isWord entries rdA fewest h) := V
  refine lv_aload_n hx hb dX12_addStroke_30 rfl (lv_at hl 0 rfl) ?_
  refine kVv3 (rest := []) F hl V [0, 1, 2, 3, 4, 5, 6, 7] [] [0, 1, 2, 3, 4, 5, 6, 7] (fun z_31 many_31 line_31 => (gX12 g a_this a_this_z a_this_saved a_this_text a_this_line a_this_aside a_this_read a_this_fewest thrown z_31 saves saved length text many_31 line_31 aside isWord entries rdA fewest h)) a_this 8 0 rfl rfl (kX12_translate l g a_this a_this_z a_this_saved a_this_text a_this_line a_this_aside a_this_read a_this_fewest thrown z_29 saves saved length text many line aside isWord entries rdA fewest h _ hw) gX12_addStroke_X12_translate rfl 0 rfl hdX12_translate rfl rfl (fun _ _ _ => rfl) rfl rfl rfl (by decide) ⟨Nat.le_of_ble_eq_true rfl, Nat.le_of_ble_eq_true rfl⟩ ⟨Nat.le_of_ble_eq_true rfl, Nat.le_of_ble_eq_true rfl⟩ (Nat.le_of_ble_eq_true rfl) rfl dX12_addStroke_31 (fun z_31 many_31 line_31 H locs hw V => ?_)
  exact ret _ _ _ _ _ _ _ dX12_addStroke_34 V hw
theorem hdX12_isStroke : yX12_isStroke.cls ≠ "java/lang/invoke/MethodHandle" ∧ yX12_isStroke.cls ≠ "java/lang/invoke/VarHandle" ∧ (parseMethodDescriptor yX12_isStroke.desc).map (fun d => d.parameters.length) = some 1 := by decide +kernel
def wX12_isStroke (p1 : Int32) (P : Int32 → Prop) : Prop := wX12_within p1 1 4095 (fun r_5 => (r_5 = 0 ∨ r_5 = 1) ∧ P r_5)
set_option maxHeartbeats 4000000 in
set_option maxRecDepth 100000 in
theorem kX12_isStroke (l : Launch) (g : kT) (p1 : Int32) (P : Int32 → Prop) (hw : wX12_isStroke p1 P) : Ki0 l g yX12_isStroke wsX12_isStroke 1 22 0 0 [.int p1] [] P [] := by
  refine Ki0.mk (cc := cX12_isStroke) (nL := 1) (ty := .boolean) (by decide +kernel) rfl (Nat.le_of_ble_eq_true rfl) ?_
  intro p e s m below meth c A Q ls F hl V ret
  have hx := F.x
  have hb := F.b
  have hl : lv_has ls 1 [(0, .int p1)] := hl
  refine lv_iload_n hx hb dX12_isStroke_0 rfl (lv_at hl 0 rfl) ?_
  refine lv_iconst (v := 1) hx hb dX12_isStroke_1 (by decide) ?_
  refine lv_sipush (v := 4095) hx hb dX12_isStroke_2 (by decide) ?_
  refine kSi0n (rest := []) F hl V (kX12_within l g p1 1 4095 _ hw) gX12_isStroke_X12_within rfl 3 rfl hdX12_within ⟨Nat.le_of_ble_eq_true rfl, Nat.le_of_ble_eq_true rfl⟩ ⟨Nat.le_of_ble_eq_true rfl, Nat.le_of_ble_eq_true rfl⟩ (Nat.le_of_ble_eq_true rfl) rfl dX12_isStroke_5 (fun r_5 H locs hw V => ?_)
  exact ret _ _ _ _ _ (k01n hw.1) dX12_isStroke_8 V hw.2
theorem hdX12_stroke : yX12_stroke.cls = RX12 ∧ yX12_stroke.cls ≠ "java/lang/invoke/MethodHandle" ∧ yX12_stroke.cls ≠ "java/lang/invoke/VarHandle" ∧ (parseMethodDescriptor yX12_stroke.desc).map (fun d => d.parameters.length) = some 1 := by decide +kernel
theorem fX12_stroke_7 : Cond.fieldLink RX12 7 RX12 "z" "[I" ∈ wsX12_stroke := by decide +kernel
theorem iX12_stroke_X12 : ∀ w ∈ u_ws RX12 TX12 14, w ∈ wsX12_stroke := by decide +kernel
theorem fX12_stroke_31 : Cond.fieldLink RX12 31 RX12 "thrown" "I" ∈ wsX12_stroke := by decide +kernel
def wX12_stroke_30 (p1 : Int32) (P : Int32 → Int32 → (Nat → Int32) → Int32 → (Nat → Int32) → Int32 → (Nat → Int32) → Prop) (s1 : Int32) (thrown : Int32) (z : Nat → Int32) (saves : Int32) (saved : Nat → Int32) (many : Int32) (line : Nat → Int32) : Prop := (s1 ≤ 0 → wX12_save z (fun saves_43 saved_43 => wX12_addStroke p1 (fun z_48 many_48 line_48 => vp_in 399 1317 ∧ P (z_48 (399 : Int32).toNatClampNeg) s1 z_48 saves_43 saved_43 many_48 line_48) z many line) saves saved) ∧ (¬ (s1 ≤ 0) → P 0 s1 z saves saved many line)
def wX12_stroke (p1 : Int32) (P : Int32 → Int32 → (Nat → Int32) → Int32 → (Nat → Int32) → Int32 → (Nat → Int32) → Prop) (thrown : Int32) (z : Nat → Int32) (saves : Int32) (saved : Nat → Int32) (many : Int32) (line : Nat → Int32) : Prop := wX12_isStroke p1 (fun r_2 => (¬ r_2 = 0 → vp_in 337 1317 ∧ (¬ (z (337 : Int32).toNatClampNeg) = 60 → wX12_stroke_30 p1 P 0 thrown z saves saved many line) ∧ ((z (337 : Int32).toNatClampNeg) = 60 → wX12_stroke_30 p1 P 2 thrown z saves saved many line)) ∧ (r_2 = 0 → wX12_stroke_30 p1 P 1 thrown z saves saved many line))
set_option maxHeartbeats 4000000 in
set_option maxRecDepth 100000 in
theorem kX12_stroke (l : Launch) (g : kT) (a_this : Nat) (a_this_z : Nat) (a_this_saved : Nat) (a_this_text : Nat) (a_this_line : Nat) (a_this_aside : Nat) (a_this_read : Nat) (a_this_fewest : Nat) (thrown : Int32) (z : Nat → Int32) (saves : Int32) (saved : Nat → Int32) (length : Int32) (text : Nat → Int32) (many : Int32) (line : Nat → Int32) (aside : Nat → Int32) (isWord : Int32) (entries : Int32) (rdA : Nat → Int32) (fewest : Nat → Int32) (h : Int64) (p1 : Int32) (P : Int32 → Int32 → (Nat → Int32) → Int32 → (Nat → Int32) → Int32 → (Nat → Int32) → Prop) (hw : wX12_stroke p1 P thrown z saves saved many line) : Ki6 l g yX12_stroke wsX12_stroke 5 104 0 0 [.ref a_this, .int p1] (gX12 g a_this a_this_z a_this_saved a_this_text a_this_line a_this_aside a_this_read a_this_fewest thrown z saves saved length text many line aside isWord entries rdA fewest h) P (fun thrown z saves saved many line => (gX12 g a_this a_this_z a_this_saved a_this_text a_this_line a_this_aside a_this_read a_this_fewest thrown z saves saved length text many line aside isWord entries rdA fewest h)) := by
  refine Ki6.mk (cc := cX12_stroke) (nL := 2) (ty := .int) (by decide +kernel) rfl (Nat.le_of_ble_eq_true rfl) ?_
  intro p e s m below meth c A Q ls F hl V ret
  have hx := F.x
  have hb := F.b
  have hl : lv_has ls 2 [(0, .ref a_this), (1, .int p1)] := hl
  have B30 :  ∀ {H : Heap} {locs : List Loc} {ls : Array Slot} (s1 : Int32) (thrown : Int32) (z : Nat → Int32) (saves : Int32) (saved : Nat → Int32) (many : Int32) (line : Nat → Int32) (V : VW g A s.heap H locs (gX12 g a_this a_this_z a_this_saved a_this_text a_this_line a_this_aside a_this_read a_this_fewest thrown z saves saved length text many line aside isWord entries rdA fewest h)) (hl : lv_has ls 2 [(0, .ref a_this), (1, .int p1)]) (hw : wX12_stroke_30 p1 P s1 thrown z saves saved many line), W p l e (kR 5 104 0 0) s m ([.ref a_this, .int p1] : List Value).toArray below meth c H locs 0 0 Q (F0 m 30 ls [.int s1, .ref a_this]) := by
    intro  H locs ls s1 thrown z saves saved many line V hl hw
    refine kput F V 8 0 0 tyX12_ok nmX12 rfl rfl iX12_stroke_X12 fX12_stroke_31 (by decide) rfl rfl rfl rfl (Nat.le_of_ble_eq_true rfl) dX12_stroke_30 (fun H locs V => ?_)
    have V : VW g A s.heap H locs (gX12 g a_this a_this_z a_this_saved a_this_text a_this_line a_this_aside a_this_read a_this_fewest s1 z saves saved length text many line aside isWord entries rdA fewest h) := V
    refine lv_aload_n hx hb dX12_stroke_33 rfl (lv_at hl 0 rfl) ?_
    refine kget F V 8 0 0 rfl rfl iX12_stroke_X12 fX12_stroke_31 (by decide) rfl rfl dX12_stroke_34 ?_
    refine lv_if_le (tgt := 42) hx hb dX12_stroke_37 (by decide) (fun c_37 => ?_) (fun c_37 => ?_)
    · have hw := hw.1 c_37
      refine lv_aload_n hx hb dX12_stroke_42 rfl (lv_at hl 0 rfl) ?_
      refine kVv2 (rest := []) F hl V [0, 1, 2, 3, 4, 5, 6, 7] [] [0, 1, 2, 3, 4, 5, 6, 7] (fun saves_43 saved_43 => (gX12 g a_this a_this_z a_this_saved a_this_text a_this_line a_this_aside a_this_read a_this_fewest s1 z saves_43 saved_43 length text many line aside isWord entries rdA fewest h)) a_this 8 0 rfl rfl (kX12_save l g a_this a_this_z a_this_saved a_this_text a_this_line a_this_aside a_this_read a_this_fewest s1 z saves saved length text many line aside isWord entries rdA fewest h _ hw) gX12_stroke_X12_save rfl 0 rfl hdX12_save rfl rfl (fun _ _ => rfl) rfl rfl rfl (by decide) ⟨Nat.le_of_ble_eq_true rfl, Nat.le_of_ble_eq_true rfl⟩ ⟨Nat.le_of_ble_eq_true rfl, Nat.le_of_ble_eq_true rfl⟩ (Nat.le_of_ble_eq_true rfl) rfl dX12_stroke_43 (fun saves_43 saved_43 H locs hw V => ?_)
      refine lv_aload_n hx hb dX12_stroke_46 rfl (lv_at hl 0 rfl) ?_
      refine lv_iload_n hx hb dX12_stroke_47 rfl (lv_at hl 1 rfl) ?_
      refine kVv3 (rest := []) F hl V [0, 1, 2, 3, 4, 5, 6, 7] [] [0, 1, 2, 3, 4, 5, 6, 7] (fun z_48 many_48 line_48 => (gX12 g a_this a_this_z a_this_saved a_this_text a_this_line a_this_aside a_this_read a_this_fewest s1 z_48 saves_43 saved_43 length text many_48 line_48 aside isWord entries rdA fewest h)) a_this 8 0 rfl rfl (kX12_addStroke l g a_this a_this_z a_this_saved a_this_text a_this_line a_this_aside a_this_read a_this_fewest s1 z saves_43 saved_43 length text many line aside isWord entries rdA fewest h p1 _ hw) gX12_stroke_X12_addStroke rfl 1 rfl hdX12_addStroke rfl rfl (fun _ _ _ => rfl) rfl rfl rfl (by decide) ⟨Nat.le_of_ble_eq_true rfl, Nat.le_of_ble_eq_true rfl⟩ ⟨Nat.le_of_ble_eq_true rfl, Nat.le_of_ble_eq_true rfl⟩ (Nat.le_of_ble_eq_true rfl) rfl dX12_stroke_48 (fun z_48 many_48 line_48 H locs hw V => ?_)
      refine lv_aload_n hx hb dX12_stroke_51 rfl (lv_at hl 0 rfl) ?_
      refine kget F V 8 1 0 rfl rfl iX12_stroke_X12 fX12_stroke_7 (by decide) rfl rfl dX12_stroke_52 ?_
      refine lv_sipush (v := 399) hx hb dX12_stroke_55 (by decide) ?_
      refine kiald F V 1 rfl hw.1 dX12_stroke_58 ?_
      have hw := hw.2
      exact ret _ _ _ _ _ _ _ _ _ _ _ rfl dX12_stroke_59 V hw
    · have hw := hw.2 c_37
      refine lv_iconst (v := 0) hx hb dX12_stroke_40 (by decide) ?_
      exact ret _ _ _ _ _ _ _ _ _ _ _ rfl dX12_stroke_41 V hw
  refine lv_aload_n hx hb dX12_stroke_0 rfl (lv_at hl 0 rfl) ?_
  refine lv_iload_n hx hb dX12_stroke_1 rfl (lv_at hl 1 rfl) ?_
  refine kSi0n (rest := [.ref a_this]) F hl V (kX12_isStroke l g p1 _ hw) gX12_stroke_X12_isStroke rfl 1 rfl hdX12_isStroke ⟨Nat.le_of_ble_eq_true rfl, Nat.le_of_ble_eq_true rfl⟩ ⟨Nat.le_of_ble_eq_true rfl, Nat.le_of_ble_eq_true rfl⟩ (Nat.le_of_ble_eq_true rfl) rfl dX12_stroke_2 (fun r_2 H locs hw V => ?_)
  refine lv_if_ne (tgt := 12) hx hb dX12_stroke_5 (by decide) (fun c_5 => ?_) (fun c_5 => ?_)
  · have hw := hw.1 c_5
    refine lv_aload_n hx hb dX12_stroke_12 rfl (lv_at hl 0 rfl) ?_
    refine kget F V 8 1 0 rfl rfl iX12_stroke_X12 fX12_stroke_7 (by decide) rfl rfl dX12_stroke_13 ?_
    refine lv_sipush (v := 337) hx hb dX12_stroke_16 (by decide) ?_
    refine kiald F V 1 rfl hw.1 dX12_stroke_19 ?_
    have hw := hw.2
    refine lv_bipush (v := 60) hx hb dX12_stroke_20 (by decide) ?_
    refine lv_icmp_ne (tgt := 29) hx hb dX12_stroke_22 (by decide) (fun c_22 => ?_) (fun c_22 => ?_)
    · have hw := hw.1 c_22
      refine lv_iconst (v := 0) hx hb dX12_stroke_29 (by decide) ?_
      exact B30  0 thrown z saves saved many line V hl hw
    · have hw := hw.2 c_22
      refine lv_iconst (v := 2) hx hb dX12_stroke_25 (by decide) ?_
      refine lv_goto (tgt := 30) hx hb dX12_stroke_26 (by decide) ?_
      exact B30  2 thrown z saves saved many line V hl hw
  · have hw := hw.2 c_5
    refine lv_iconst (v := 1) hx hb dX12_stroke_8 (by decide) ?_
    refine lv_goto (tgt := 30) hx hb dX12_stroke_9 (by decide) ?_
    exact B30  1 thrown z saves saved many line V hl hw
theorem hdX12_takeBack : yX12_takeBack.cls = RX12 ∧ yX12_takeBack.cls ≠ "java/lang/invoke/MethodHandle" ∧ yX12_takeBack.cls ≠ "java/lang/invoke/VarHandle" ∧ (parseMethodDescriptor yX12_takeBack.desc).map (fun d => d.parameters.length) = some 0 := by decide +kernel
theorem fX12_takeBack_7 : Cond.fieldLink RX12 7 RX12 "z" "[I" ∈ wsX12_takeBack := by decide +kernel
theorem iX12_takeBack_X12 : ∀ w ∈ u_ws RX12 TX12 14, w ∈ wsX12_takeBack := by decide +kernel
theorem fX12_takeBack_31 : Cond.fieldLink RX12 31 RX12 "thrown" "I" ∈ wsX12_takeBack := by decide +kernel
def wX12_takeBack_54 (P : Int32 → Int32 → (Nat → Int32) → Int32 → (Nat → Int32) → Int32 → (Nat → Int32) → Prop) (s1 : Int32) (s2 : Int32) (s3 : Int32) (thrown : Int32) (z : Nat → Int32) (saves : Int32) (saved : Nat → Int32) (many : Int32) (line : Nat → Int32) : Prop := vp_in s1 1317 ∧ ∀ z_55 : Nat → Int32, z_55 = upd z s1.toNatClampNeg (s2 - s3) → vp_in 337 1317 ∧ vp_in 337 1317 ∧ ∀ z_67 : Nat → Int32, z_67 = upd z_55 (337 : Int32).toNatClampNeg ((z_55 (337 : Int32).toNatClampNeg) - 1) → vp_in 337 1317 ∧ vp_in (338 + (z_67 (337 : Int32).toNatClampNeg)) 1317 ∧ ∀ v1_85 : Int32, v1_85 = (z_67 (338 + (z_67 (337 : Int32).toNatClampNeg)).toNatClampNeg) → wX12_translate (fun z_87 many_87 line_87 => P v1_85 thrown z_87 saves saved many_87 line_87) z_67 many line
def wX12_takeBack_17 (P : Int32 → Int32 → (Nat → Int32) → Int32 → (Nat → Int32) → Int32 → (Nat → Int32) → Prop) (s1 : Int32) (thrown : Int32) (z : Nat → Int32) (saves : Int32) (saved : Nat → Int32) (many : Int32) (line : Nat → Int32) : Prop := (s1 ≤ 0 → wX12_save z (fun saves_30 saved_30 => vp_in 1315 1317 ∧ wX12_openStrokes z (fun r_43 => (¬ r_43 = 0 → wX12_takeBack_54 P 1315 (z (1315 : Int32).toNatClampNeg) 0 s1 z saves_30 saved_30 many line) ∧ (r_43 = 0 → wX12_takeBack_54 P 1315 (z (1315 : Int32).toNatClampNeg) 1 s1 z saves_30 saved_30 many line))) saves saved) ∧ (¬ (s1 ≤ 0) → P 0 s1 z saves saved many line)
def wX12_takeBack (P : Int32 → Int32 → (Nat → Int32) → Int32 → (Nat → Int32) → Int32 → (Nat → Int32) → Prop) (thrown : Int32) (z : Nat → Int32) (saves : Int32) (saved : Nat → Int32) (many : Int32) (line : Nat → Int32) : Prop := vp_in 337 1317 ∧ ((z (337 : Int32).toNatClampNeg) ≤ 0 → wX12_takeBack_17 P 1 thrown z saves saved many line) ∧ (¬ ((z (337 : Int32).toNatClampNeg) ≤ 0) → wX12_takeBack_17 P 0 thrown z saves saved many line)
set_option maxHeartbeats 4000000 in
set_option maxRecDepth 100000 in
theorem kX12_takeBack (l : Launch) (g : kT) (a_this : Nat) (a_this_z : Nat) (a_this_saved : Nat) (a_this_text : Nat) (a_this_line : Nat) (a_this_aside : Nat) (a_this_read : Nat) (a_this_fewest : Nat) (thrown : Int32) (z : Nat → Int32) (saves : Int32) (saved : Nat → Int32) (length : Int32) (text : Nat → Int32) (many : Int32) (line : Nat → Int32) (aside : Nat → Int32) (isWord : Int32) (entries : Int32) (rdA : Nat → Int32) (fewest : Nat → Int32) (h : Int64) (P : Int32 → Int32 → (Nat → Int32) → Int32 → (Nat → Int32) → Int32 → (Nat → Int32) → Prop) (hw : wX12_takeBack P thrown z saves saved many line) : Ki6 l g yX12_takeBack wsX12_takeBack 4 83 0 0 [.ref a_this] (gX12 g a_this a_this_z a_this_saved a_this_text a_this_line a_this_aside a_this_read a_this_fewest thrown z saves saved length text many line aside isWord entries rdA fewest h) P (fun thrown z saves saved many line => (gX12 g a_this a_this_z a_this_saved a_this_text a_this_line a_this_aside a_this_read a_this_fewest thrown z saves saved length text many line aside isWord entries rdA fewest h)) := by
  refine Ki6.mk (cc := cX12_takeBack) (nL := 2) (ty := .int) (by decide +kernel) rfl (Nat.le_of_ble_eq_true rfl) ?_
  intro p e s m below meth c A Q ls F hl V ret
  have hx := F.x
  have hb := F.b
  have hl : lv_has ls 2 [(0, .ref a_this)] := hl
  have B54 :  ∀ {H : Heap} {locs : List Loc} {ls : Array Slot} (s1 : Int32) (s2 : Int32) (s3 : Int32) (thrown : Int32) (z : Nat → Int32) (saves : Int32) (saved : Nat → Int32) (many : Int32) (line : Nat → Int32) (V : VW g A s.heap H locs (gX12 g a_this a_this_z a_this_saved a_this_text a_this_line a_this_aside a_this_read a_this_fewest thrown z saves saved length text many line aside isWord entries rdA fewest h)) (hl : lv_has ls 2 [(0, .ref a_this)]) (hw : wX12_takeBack_54 P s1 s2 s3 thrown z saves saved many line), W p l e (kR 4 83 0 0) s m ([.ref a_this] : List Value).toArray below meth c H locs 0 0 Q (F0 m 54 ls [.int s3, .int s2, .int s1, .ref a_this_z]) := by
    intro  H locs ls s1 s2 s3 thrown z saves saved many line V hl hw
    refine lv_isub hx hb dX12_takeBack_54 ?_
    refine kiast F V 1 rfl hw.1 dX12_takeBack_55 (fun z_55 ez_55 H locs V => ?_)
    have hw := hw.2 z_55 ez_55
    have V : VW g A s.heap H locs (gX12 g a_this a_this_z a_this_saved a_this_text a_this_line a_this_aside a_this_read a_this_fewest thrown z_55 saves saved length text many line aside isWord entries rdA fewest h) := V
    refine lv_aload_n hx hb dX12_takeBack_56 rfl (lv_at hl 0 rfl) ?_
    refine kget F V 8 1 0 rfl rfl iX12_takeBack_X12 fX12_takeBack_7 (by decide) rfl rfl dX12_takeBack_57 ?_
    refine lv_sipush (v := 337) hx hb dX12_takeBack_60 (by decide) ?_
    refine lv_dup2_11 hx hb dX12_takeBack_63 rfl rfl ?_
    refine kiald F V 1 rfl hw.1 dX12_takeBack_64 ?_
    have hw := hw.2
    refine lv_iconst (v := 1) hx hb dX12_takeBack_65 (by decide) ?_
    refine lv_isub hx hb dX12_takeBack_66 ?_
    refine kiast F V 1 rfl hw.1 dX12_takeBack_67 (fun z_67 ez_67 H locs V => ?_)
    have hw := hw.2 z_67 ez_67
    have V : VW g A s.heap H locs (gX12 g a_this a_this_z a_this_saved a_this_text a_this_line a_this_aside a_this_read a_this_fewest thrown z_67 saves saved length text many line aside isWord entries rdA fewest h) := V
    refine lv_aload_n hx hb dX12_takeBack_68 rfl (lv_at hl 0 rfl) ?_
    refine kget F V 8 1 0 rfl rfl iX12_takeBack_X12 fX12_takeBack_7 (by decide) rfl rfl dX12_takeBack_69 ?_
    refine lv_sipush (v := 338) hx hb dX12_takeBack_72 (by decide) ?_
    refine lv_aload_n hx hb dX12_takeBack_75 rfl (lv_at hl 0 rfl) ?_
    refine kget F V 8 1 0 rfl rfl iX12_takeBack_X12 fX12_takeBack_7 (by decide) rfl rfl dX12_takeBack_76 ?_
    refine lv_sipush (v := 337) hx hb dX12_takeBack_79 (by decide) ?_
    refine kiald F V 1 rfl hw.1 dX12_takeBack_82 ?_
    have hw := hw.2
    refine lv_iadd hx hb dX12_takeBack_83 ?_
    refine kiald F V 1 rfl hw.1 dX12_takeBack_84 ?_
    have hw := hw.2
    refine lv_topi (fun v1_85 ev1_85 => ?_)
    have hw := hw v1_85 ev1_85
    refine lv_istore_n (lv' := [(1, .int v1_85), (0, .ref a_this)]) hx hb dX12_takeBack_85 rfl hl (by decide) rfl (fun ls hl => ?_)
    refine lv_aload_n hx hb dX12_takeBack_86 rfl (lv_at hl 1 rfl) ?_
    refine kVv3 (rest := []) F hl V [0, 1, 2, 3, 4, 5, 6, 7] [] [0, 1, 2, 3, 4, 5, 6, 7] (fun z_87 many_87 line_87 => (gX12 g a_this a_this_z a_this_saved a_this_text a_this_line a_this_aside a_this_read a_this_fewest thrown z_87 saves saved length text many_87 line_87 aside isWord entries rdA fewest h)) a_this 8 0 rfl rfl (kX12_translate l g a_this a_this_z a_this_saved a_this_text a_this_line a_this_aside a_this_read a_this_fewest thrown z_67 saves saved length text many line aside isWord entries rdA fewest h _ hw) gX12_takeBack_X12_translate rfl 0 rfl hdX12_translate rfl rfl (fun _ _ _ => rfl) rfl rfl rfl (by decide) ⟨Nat.le_of_ble_eq_true rfl, Nat.le_of_ble_eq_true rfl⟩ ⟨Nat.le_of_ble_eq_true rfl, Nat.le_of_ble_eq_true rfl⟩ (Nat.le_of_ble_eq_true rfl) rfl dX12_takeBack_87 (fun z_87 many_87 line_87 H locs hw V => ?_)
    refine lv_iload_n hx hb dX12_takeBack_90 rfl (lv_at hl 0 rfl) ?_
    exact ret _ _ _ _ _ _ _ _ _ _ _ rfl dX12_takeBack_91 V hw
  have B17 :  ∀ {H : Heap} {locs : List Loc} {ls : Array Slot} (s1 : Int32) (thrown : Int32) (z : Nat → Int32) (saves : Int32) (saved : Nat → Int32) (many : Int32) (line : Nat → Int32) (V : VW g A s.heap H locs (gX12 g a_this a_this_z a_this_saved a_this_text a_this_line a_this_aside a_this_read a_this_fewest thrown z saves saved length text many line aside isWord entries rdA fewest h)) (hl : lv_has ls 2 [(0, .ref a_this)]) (hw : wX12_takeBack_17 P s1 thrown z saves saved many line), W p l e (kR 4 83 0 0) s m ([.ref a_this] : List Value).toArray below meth c H locs 0 0 Q (F0 m 17 ls [.int s1, .ref a_this]) := by
    intro  H locs ls s1 thrown z saves saved many line V hl hw
    refine kput F V 8 0 0 tyX12_ok nmX12 rfl rfl iX12_takeBack_X12 fX12_takeBack_31 (by decide) rfl rfl rfl rfl (Nat.le_of_ble_eq_true rfl) dX12_takeBack_17 (fun H locs V => ?_)
    have V : VW g A s.heap H locs (gX12 g a_this a_this_z a_this_saved a_this_text a_this_line a_this_aside a_this_read a_this_fewest s1 z saves saved length text many line aside isWord entries rdA fewest h) := V
    refine lv_aload_n hx hb dX12_takeBack_20 rfl (lv_at hl 0 rfl) ?_
    refine kget F V 8 0 0 rfl rfl iX12_takeBack_X12 fX12_takeBack_31 (by decide) rfl rfl dX12_takeBack_21 ?_
    refine lv_if_le (tgt := 29) hx hb dX12_takeBack_24 (by decide) (fun c_24 => ?_) (fun c_24 => ?_)
    · have hw := hw.1 c_24
      refine lv_aload_n hx hb dX12_takeBack_29 rfl (lv_at hl 0 rfl) ?_
      refine kVv2 (rest := []) F hl V [0, 1, 2, 3, 4, 5, 6, 7] [] [0, 1, 2, 3, 4, 5, 6, 7] (fun saves_30 saved_30 => (gX12 g a_this a_this_z a_this_saved a_this_text a_this_line a_this_aside a_this_read a_this_fewest s1 z saves_30 saved_30 length text many line aside isWord entries rdA fewest h)) a_this 8 0 rfl rfl (kX12_save l g a_this a_this_z a_this_saved a_this_text a_this_line a_this_aside a_this_read a_this_fewest s1 z saves saved length text many line aside isWord entries rdA fewest h _ hw) gX12_takeBack_X12_save rfl 0 rfl hdX12_save rfl rfl (fun _ _ => rfl) rfl rfl rfl (by decide) ⟨Nat.le_of_ble_eq_true rfl, Nat.le_of_ble_eq_true rfl⟩ ⟨Nat.le_of_ble_eq_true rfl, Nat.le_of_ble_eq_true rfl⟩ (Nat.le_of_ble_eq_true rfl) rfl dX12_takeBack_30 (fun saves_30 saved_30 H locs hw V => ?_)
      refine lv_aload_n hx hb dX12_takeBack_33 rfl (lv_at hl 0 rfl) ?_
      refine kget F V 8 1 0 rfl rfl iX12_takeBack_X12 fX12_takeBack_7 (by decide) rfl rfl dX12_takeBack_34 ?_
      refine lv_sipush (v := 1315) hx hb dX12_takeBack_37 (by decide) ?_
      refine lv_dup2_11 hx hb dX12_takeBack_40 rfl rfl ?_
      refine kiald F V 1 rfl hw.1 dX12_takeBack_41 ?_
      have hw := hw.2
      refine lv_aload_n hx hb dX12_takeBack_42 rfl (lv_at hl 0 rfl) ?_
      refine kVi0 (rest := [.int (z (1315 : Int32).toNatClampNeg), .int 1315, .ref a_this_z]) F hl V [0, 1, 2, 3, 4, 5, 6, 7] [] [0, 1, 2, 3, 4, 5, 6, 7] (gX12 g a_this a_this_z a_this_saved a_this_text a_this_line a_this_aside a_this_read a_this_fewest s1 z saves_30 saved_30 length text many line aside isWord entries rdA fewest h) a_this 8 0 rfl rfl (kX12_openStrokes l g a_this a_this_z a_this_saved a_this_text a_this_line a_this_aside a_this_read a_this_fewest s1 z saves_30 saved_30 length text many line aside isWord entries rdA fewest h _ hw) gX12_takeBack_X12_openStrokes rfl 0 rfl hdX12_openStrokes rfl rfl (fun _ => rfl) rfl rfl rfl (by decide) ⟨Nat.le_of_ble_eq_true rfl, Nat.le_of_ble_eq_true rfl⟩ ⟨Nat.le_of_ble_eq_true rfl, Nat.le_of_ble_eq_true rfl⟩ (Nat.le_of_ble_eq_true rfl) rfl dX12_takeBack_43 (fun r_43 H locs hw V => ?_)
      refine lv_if_ne (tgt := 53) hx hb dX12_takeBack_46 (by decide) (fun c_46 => ?_) (fun c_46 => ?_)
      · have hw := hw.1 c_46
        refine lv_iconst (v := 0) hx hb dX12_takeBack_53 (by decide) ?_
        exact B54  1315 (z (1315 : Int32).toNatClampNeg) 0 s1 z saves_30 saved_30 many line V hl hw
      · have hw := hw.2 c_46
        refine lv_iconst (v := 1) hx hb dX12_takeBack_49 (by decide) ?_
        refine lv_goto (tgt := 54) hx hb dX12_takeBack_50 (by decide) ?_
        exact B54  1315 (z (1315 : Int32).toNatClampNeg) 1 s1 z saves_30 saved_30 many line V hl hw
    · have hw := hw.2 c_24
      refine lv_iconst (v := 0) hx hb dX12_takeBack_27 (by decide) ?_
      exact ret _ _ _ _ _ _ _ _ _ _ _ rfl dX12_takeBack_28 V hw
  refine lv_aload_n hx hb dX12_takeBack_0 rfl (lv_at hl 0 rfl) ?_
  refine lv_aload_n hx hb dX12_takeBack_1 rfl (lv_at hl 0 rfl) ?_
  refine kget F V 8 1 0 rfl rfl iX12_takeBack_X12 fX12_takeBack_7 (by decide) rfl rfl dX12_takeBack_2 ?_
  refine lv_sipush (v := 337) hx hb dX12_takeBack_5 (by decide) ?_
  refine kiald F V 1 rfl hw.1 dX12_takeBack_8 ?_
  have hw := hw.2
  refine lv_if_le (tgt := 16) hx hb dX12_takeBack_9 (by decide) (fun c_9 => ?_) (fun c_9 => ?_)
  · have hw := hw.1 c_9
    refine lv_iconst (v := 1) hx hb dX12_takeBack_16 (by decide) ?_
    exact B17  1 thrown z saves saved many line V hl hw
  · have hw := hw.2 c_9
    refine lv_iconst (v := 0) hx hb dX12_takeBack_12 (by decide) ?_
    refine lv_goto (tgt := 17) hx hb dX12_takeBack_13 (by decide) ?_
    exact B17  0 thrown z saves saved many line V hl hw
theorem hdX12_fixAll : yX12_fixAll.cls = RX12 ∧ yX12_fixAll.cls ≠ "java/lang/invoke/MethodHandle" ∧ yX12_fixAll.cls ≠ "java/lang/invoke/VarHandle" ∧ (parseMethodDescriptor yX12_fixAll.desc).map (fun d => d.parameters.length) = some 0 := by decide +kernel
theorem fX12_fixAll_31 : Cond.fieldLink RX12 31 RX12 "thrown" "I" ∈ wsX12_fixAll := by decide +kernel
theorem iX12_fixAll_X12 : ∀ w ∈ u_ws RX12 TX12 14, w ∈ wsX12_fixAll := by decide +kernel
theorem fX12_fixAll_7 : Cond.fieldLink RX12 7 RX12 "z" "[I" ∈ wsX12_fixAll := by decide +kernel
def wX12_fixAll_27 (P : Int32 → Int32 → (Nat → Int32) → Int32 → (Nat → Int32) → Prop) : Nat → Int32 → Int32 → (Nat → Int32) → Int32 → (Nat → Int32) → Prop
  | 0, _, _, _, _, _ => False
  | n + 1, v1, thrown, z, saves, saved => vp_in 1315 1317 ∧ vp_in 399 1317 ∧ ((z (399 : Int32).toNatClampNeg) ≤ (z (1315 : Int32).toNatClampNeg) → P v1 thrown z saves saved) ∧ (¬ ((z (399 : Int32).toNatClampNeg) ≤ (z (1315 : Int32).toNatClampNeg)) → wX12_fixOne (fun z_47 => (wX12_fixAll_27 P n) v1 thrown z_47 saves saved) z)
def wX12_fixAll (P : Int32 → Int32 → (Nat → Int32) → Int32 → (Nat → Int32) → Prop) (thrown : Int32) (z : Nat → Int32) (saves : Int32) (saved : Nat → Int32) : Prop := wX12_save z (fun saves_6 saved_6 => vp_in 399 1317 ∧ vp_in 1315 1317 ∧ ∀ v1_26 : Int32, v1_26 = ((z (399 : Int32).toNatClampNeg) - (z (1315 : Int32).toNatClampNeg)) → ∃ n_27, wX12_fixAll_27 P n_27 v1_26 0 z saves_6 saved_6) saves saved
set_option maxHeartbeats 4000000 in
set_option maxRecDepth 100000 in
theorem kX12_fixAll (l : Launch) (g : kT) (a_this : Nat) (a_this_z : Nat) (a_this_saved : Nat) (a_this_text : Nat) (a_this_line : Nat) (a_this_aside : Nat) (a_this_read : Nat) (a_this_fewest : Nat) (thrown : Int32) (z : Nat → Int32) (saves : Int32) (saved : Nat → Int32) (length : Int32) (text : Nat → Int32) (many : Int32) (line : Nat → Int32) (aside : Nat → Int32) (isWord : Int32) (entries : Int32) (rdA : Nat → Int32) (fewest : Nat → Int32) (h : Int64) (P : Int32 → Int32 → (Nat → Int32) → Int32 → (Nat → Int32) → Prop) (hw : wX12_fixAll P thrown z saves saved) : Ki4 l g yX12_fixAll wsX12_fixAll 2 40 0 0 [.ref a_this] (gX12 g a_this a_this_z a_this_saved a_this_text a_this_line a_this_aside a_this_read a_this_fewest thrown z saves saved length text many line aside isWord entries rdA fewest h) P (fun thrown z saves saved => (gX12 g a_this a_this_z a_this_saved a_this_text a_this_line a_this_aside a_this_read a_this_fewest thrown z saves saved length text many line aside isWord entries rdA fewest h)) := by
  refine Ki4.mk (cc := cX12_fixAll) (nL := 2) (ty := .int) (by decide +kernel) rfl (Nat.le_of_ble_eq_true rfl) ?_
  intro p e s m below meth c A Q ls F hl V ret
  have hx := F.x
  have hb := F.b
  have hl : lv_has ls 2 [(0, .ref a_this)] := hl
  have B27 :  ∀ (n : Nat), ∀ {H : Heap} {locs : List Loc} {ls : Array Slot} (v1 : Int32) (thrown : Int32) (z : Nat → Int32) (saves : Int32) (saved : Nat → Int32) (V : VW g A s.heap H locs (gX12 g a_this a_this_z a_this_saved a_this_text a_this_line a_this_aside a_this_read a_this_fewest thrown z saves saved length text many line aside isWord entries rdA fewest h)) (hl : lv_has ls 2 [(0, .ref a_this), (1, .int v1)]) (hw : wX12_fixAll_27 P n v1 thrown z saves saved), W p l e (kR 2 40 0 0) s m ([.ref a_this] : List Value).toArray below meth c H locs 0 0 Q (F0 m 27 ls []) := by
    intro n
    induction n with
    | zero => intro _ _ _ _ _ _ _ _ V hl hw; exact hw.elim
    | succ n ih =>
      intro H locs ls v1 thrown z saves saved V hl hw
      refine lv_aload_n hx hb dX12_fixAll_27 rfl (lv_at hl 0 rfl) ?_
      refine kget F V 8 1 0 rfl rfl iX12_fixAll_X12 fX12_fixAll_7 (by decide) rfl rfl dX12_fixAll_28 ?_
      refine lv_sipush (v := 1315) hx hb dX12_fixAll_31 (by decide) ?_
      refine kiald F V 1 rfl hw.1 dX12_fixAll_34 ?_
      have hw := hw.2
      refine lv_aload_n hx hb dX12_fixAll_35 rfl (lv_at hl 0 rfl) ?_
      refine kget F V 8 1 0 rfl rfl iX12_fixAll_X12 fX12_fixAll_7 (by decide) rfl rfl dX12_fixAll_36 ?_
      refine lv_sipush (v := 399) hx hb dX12_fixAll_39 (by decide) ?_
      refine kiald F V 1 rfl hw.1 dX12_fixAll_42 ?_
      have hw := hw.2
      refine lv_icmp_ge (tgt := 53) hx hb dX12_fixAll_43 (by decide) (fun c_43 => ?_) (fun c_43 => ?_)
      · have hw := hw.1 c_43
        refine lv_iload_n hx hb dX12_fixAll_53 rfl (lv_at hl 1 rfl) ?_
        exact ret _ _ _ _ _ _ _ _ _ rfl dX12_fixAll_54 V hw
      · have hw := hw.2 c_43
        refine lv_aload_n hx hb dX12_fixAll_46 rfl (lv_at hl 0 rfl) ?_
        refine kVv1 (rest := []) F hl V [0, 1, 2, 3, 4, 5, 6, 7] [] [0, 1, 2, 3, 4, 5, 6, 7] (fun z_47 => (gX12 g a_this a_this_z a_this_saved a_this_text a_this_line a_this_aside a_this_read a_this_fewest thrown z_47 saves saved length text many line aside isWord entries rdA fewest h)) a_this 8 0 rfl rfl (kX12_fixOne l g a_this a_this_z a_this_saved a_this_text a_this_line a_this_aside a_this_read a_this_fewest thrown z saves saved length text many line aside isWord entries rdA fewest h _ hw) gX12_fixAll_X12_fixOne rfl 0 rfl hdX12_fixOne rfl rfl (fun _ => rfl) rfl rfl rfl (by decide) ⟨Nat.le_of_ble_eq_true rfl, Nat.le_of_ble_eq_true rfl⟩ ⟨Nat.le_of_ble_eq_true rfl, Nat.le_of_ble_eq_true rfl⟩ (Nat.le_of_ble_eq_true rfl) rfl dX12_fixAll_47 (fun z_47 H locs hw V => ?_)
        refine lv_goto (tgt := 27) hx hb dX12_fixAll_50 (by decide) ?_
        exact ih v1 thrown z_47 saves saved V hl hw
  refine lv_aload_n hx hb dX12_fixAll_0 rfl (lv_at hl 0 rfl) ?_
  refine lv_iconst (v := 0) hx hb dX12_fixAll_1 (by decide) ?_
  refine kput F V 8 0 0 tyX12_ok nmX12 rfl rfl iX12_fixAll_X12 fX12_fixAll_31 (by decide) rfl rfl rfl rfl (Nat.le_of_ble_eq_true rfl) dX12_fixAll_2 (fun H locs V => ?_)
  have V : VW g A s.heap H locs (gX12 g a_this a_this_z a_this_saved a_this_text a_this_line a_this_aside a_this_read a_this_fewest 0 z saves saved length text many line aside isWord entries rdA fewest h) := V
  refine lv_aload_n hx hb dX12_fixAll_5 rfl (lv_at hl 0 rfl) ?_
  refine kVv2 (rest := []) F hl V [0, 1, 2, 3, 4, 5, 6, 7] [] [0, 1, 2, 3, 4, 5, 6, 7] (fun saves_6 saved_6 => (gX12 g a_this a_this_z a_this_saved a_this_text a_this_line a_this_aside a_this_read a_this_fewest 0 z saves_6 saved_6 length text many line aside isWord entries rdA fewest h)) a_this 8 0 rfl rfl (kX12_save l g a_this a_this_z a_this_saved a_this_text a_this_line a_this_aside a_this_read a_this_fewest 0 z saves saved length text many line aside isWord entries rdA fewest h _ hw) gX12_fixAll_X12_save rfl 0 rfl hdX12_save rfl rfl (fun _ _ => rfl) rfl rfl rfl (by decide) ⟨Nat.le_of_ble_eq_true rfl, Nat.le_of_ble_eq_true rfl⟩ ⟨Nat.le_of_ble_eq_true rfl, Nat.le_of_ble_eq_true rfl⟩ (Nat.le_of_ble_eq_true rfl) rfl dX12_fixAll_6 (fun saves_6 saved_6 H locs hw V => ?_)
  refine lv_aload_n hx hb dX12_fixAll_9 rfl (lv_at hl 0 rfl) ?_
  refine kget F V 8 1 0 rfl rfl iX12_fixAll_X12 fX12_fixAll_7 (by decide) rfl rfl dX12_fixAll_10 ?_
  refine lv_sipush (v := 399) hx hb dX12_fixAll_13 (by decide) ?_
  refine kiald F V 1 rfl hw.1 dX12_fixAll_16 ?_
  have hw := hw.2
  refine lv_aload_n hx hb dX12_fixAll_17 rfl (lv_at hl 0 rfl) ?_
  refine kget F V 8 1 0 rfl rfl iX12_fixAll_X12 fX12_fixAll_7 (by decide) rfl rfl dX12_fixAll_18 ?_
  refine lv_sipush (v := 1315) hx hb dX12_fixAll_21 (by decide) ?_
  refine kiald F V 1 rfl hw.1 dX12_fixAll_24 ?_
  have hw := hw.2
  refine lv_isub hx hb dX12_fixAll_25 ?_
  refine lv_topi (fun v1_26 ev1_26 => ?_)
  have hw := hw v1_26 ev1_26
  refine lv_istore_n (lv' := [(1, .int v1_26), (0, .ref a_this)]) hx hb dX12_fixAll_26 rfl hl (by decide) rfl (fun ls hl => ?_)
  obtain ⟨n_27, hw⟩ := hw
  exact B27  n_27 v1_26 0 z saves_6 saved_6 V (lv_sub hl [1, 0] rfl) hw
theorem hdX12_setWindow : yX12_setWindow.cls = RX12 ∧ yX12_setWindow.cls ≠ "java/lang/invoke/MethodHandle" ∧ yX12_setWindow.cls ≠ "java/lang/invoke/VarHandle" ∧ (parseMethodDescriptor yX12_setWindow.desc).map (fun d => d.parameters.length) = some 1 := by decide +kernel
theorem fX12_setWindow_31 : Cond.fieldLink RX12 31 RX12 "thrown" "I" ∈ wsX12_setWindow := by decide +kernel
theorem iX12_setWindow_X12 : ∀ w ∈ u_ws RX12 TX12 14, w ∈ wsX12_setWindow := by decide +kernel
theorem fX12_setWindow_7 : Cond.fieldLink RX12 7 RX12 "z" "[I" ∈ wsX12_setWindow := by decide +kernel
def wX12_setWindow_16 (p1 : Int32) (P : Int32 → Int32 → (Nat → Int32) → Int32 → (Nat → Int32) → Int32 → (Nat → Int32) → Prop) (s1 : Int32) (thrown : Int32) (z : Nat → Int32) (saves : Int32) (saved : Nat → Int32) (many : Int32) (line : Nat → Int32) : Prop := (s1 ≤ 0 → wX12_save z (fun saves_29 saved_29 => vp_in 1316 1317 ∧ ∀ v2_40 : Int32, v2_40 = (z (1316 : Int32).toNatClampNeg) → vp_in 1316 1317 ∧ ∀ z_49 : Nat → Int32, z_49 = upd z (1316 : Int32).toNatClampNeg p1 → wX12_translate (fun z_51 many_51 line_51 => P v2_40 s1 z_51 saves_29 saved_29 many_51 line_51) z_49 many line) saves saved) ∧ (¬ (s1 ≤ 0) → P 0 s1 z saves saved many line)
def wX12_setWindow (p1 : Int32) (P : Int32 → Int32 → (Nat → Int32) → Int32 → (Nat → Int32) → Int32 → (Nat → Int32) → Prop) (thrown : Int32) (z : Nat → Int32) (saves : Int32) (saved : Nat → Int32) (many : Int32) (line : Nat → Int32) : Prop := wX12_within p1 0 30 (fun r_5 => (r_5 = 0 → wX12_setWindow_16 p1 P 1 thrown z saves saved many line) ∧ (¬ (r_5 = 0) → wX12_setWindow_16 p1 P 0 thrown z saves saved many line))
set_option maxHeartbeats 4000000 in
set_option maxRecDepth 100000 in
theorem kX12_setWindow (l : Launch) (g : kT) (a_this : Nat) (a_this_z : Nat) (a_this_saved : Nat) (a_this_text : Nat) (a_this_line : Nat) (a_this_aside : Nat) (a_this_read : Nat) (a_this_fewest : Nat) (thrown : Int32) (z : Nat → Int32) (saves : Int32) (saved : Nat → Int32) (length : Int32) (text : Nat → Int32) (many : Int32) (line : Nat → Int32) (aside : Nat → Int32) (isWord : Int32) (entries : Int32) (rdA : Nat → Int32) (fewest : Nat → Int32) (h : Int64) (p1 : Int32) (P : Int32 → Int32 → (Nat → Int32) → Int32 → (Nat → Int32) → Int32 → (Nat → Int32) → Prop) (hw : wX12_setWindow p1 P thrown z saves saved many line) : Ki6 l g yX12_setWindow wsX12_setWindow 4 83 0 0 [.ref a_this, .int p1] (gX12 g a_this a_this_z a_this_saved a_this_text a_this_line a_this_aside a_this_read a_this_fewest thrown z saves saved length text many line aside isWord entries rdA fewest h) P (fun thrown z saves saved many line => (gX12 g a_this a_this_z a_this_saved a_this_text a_this_line a_this_aside a_this_read a_this_fewest thrown z saves saved length text many line aside isWord entries rdA fewest h)) := by
  refine Ki6.mk (cc := cX12_setWindow) (nL := 3) (ty := .int) (by decide +kernel) rfl (Nat.le_of_ble_eq_true rfl) ?_
  intro p e s m below meth c A Q ls F hl V ret
  have hx := F.x
  have hb := F.b
  have hl : lv_has ls 3 [(0, .ref a_this), (1, .int p1)] := hl
  have B16 :  ∀ {H : Heap} {locs : List Loc} {ls : Array Slot} (s1 : Int32) (thrown : Int32) (z : Nat → Int32) (saves : Int32) (saved : Nat → Int32) (many : Int32) (line : Nat → Int32) (V : VW g A s.heap H locs (gX12 g a_this a_this_z a_this_saved a_this_text a_this_line a_this_aside a_this_read a_this_fewest thrown z saves saved length text many line aside isWord entries rdA fewest h)) (hl : lv_has ls 3 [(0, .ref a_this), (1, .int p1)]) (hw : wX12_setWindow_16 p1 P s1 thrown z saves saved many line), W p l e (kR 4 83 0 0) s m ([.ref a_this, .int p1] : List Value).toArray below meth c H locs 0 0 Q (F0 m 16 ls [.int s1, .ref a_this]) := by
    intro  H locs ls s1 thrown z saves saved many line V hl hw
    refine kput F V 8 0 0 tyX12_ok nmX12 rfl rfl iX12_setWindow_X12 fX12_setWindow_31 (by decide) rfl rfl rfl rfl (Nat.le_of_ble_eq_true rfl) dX12_setWindow_16 (fun H locs V => ?_)
    have V : VW g A s.heap H locs (gX12 g a_this a_this_z a_this_saved a_this_text a_this_line a_this_aside a_this_read a_this_fewest s1 z saves saved length text many line aside isWord entries rdA fewest h) := V
    refine lv_aload_n hx hb dX12_setWindow_19 rfl (lv_at hl 0 rfl) ?_
    refine kget F V 8 0 0 rfl rfl iX12_setWindow_X12 fX12_setWindow_31 (by decide) rfl rfl dX12_setWindow_20 ?_
    refine lv_if_le (tgt := 28) hx hb dX12_setWindow_23 (by decide) (fun c_23 => ?_) (fun c_23 => ?_)
    · have hw := hw.1 c_23
      refine lv_aload_n hx hb dX12_setWindow_28 rfl (lv_at hl 0 rfl) ?_
      refine kVv2 (rest := []) F hl V [0, 1, 2, 3, 4, 5, 6, 7] [] [0, 1, 2, 3, 4, 5, 6, 7] (fun saves_29 saved_29 => (gX12 g a_this a_this_z a_this_saved a_this_text a_this_line a_this_aside a_this_read a_this_fewest s1 z saves_29 saved_29 length text many line aside isWord entries rdA fewest h)) a_this 8 0 rfl rfl (kX12_save l g a_this a_this_z a_this_saved a_this_text a_this_line a_this_aside a_this_read a_this_fewest s1 z saves saved length text many line aside isWord entries rdA fewest h _ hw) gX12_setWindow_X12_save rfl 0 rfl hdX12_save rfl rfl (fun _ _ => rfl) rfl rfl rfl (by decide) ⟨Nat.le_of_ble_eq_true rfl, Nat.le_of_ble_eq_true rfl⟩ ⟨Nat.le_of_ble_eq_true rfl, Nat.le_of_ble_eq_true rfl⟩ (Nat.le_of_ble_eq_true rfl) rfl dX12_setWindow_29 (fun saves_29 saved_29 H locs hw V => ?_)
      refine lv_aload_n hx hb dX12_setWindow_32 rfl (lv_at hl 0 rfl) ?_
      refine kget F V 8 1 0 rfl rfl iX12_setWindow_X12 fX12_setWindow_7 (by decide) rfl rfl dX12_setWindow_33 ?_
      refine lv_sipush (v := 1316) hx hb dX12_setWindow_36 (by decide) ?_
      refine kiald F V 1 rfl hw.1 dX12_setWindow_39 ?_
      have hw := hw.2
      refine lv_topi (fun v2_40 ev2_40 => ?_)
      have hw := hw v2_40 ev2_40
      refine lv_istore_n (lv' := [(2, .int v2_40), (0, .ref a_this), (1, .int p1)]) hx hb dX12_setWindow_40 rfl hl (by decide) rfl (fun ls hl => ?_)
      refine lv_aload_n hx hb dX12_setWindow_41 rfl (lv_at hl 1 rfl) ?_
      refine kget F V 8 1 0 rfl rfl iX12_setWindow_X12 fX12_setWindow_7 (by decide) rfl rfl dX12_setWindow_42 ?_
      refine lv_sipush (v := 1316) hx hb dX12_setWindow_45 (by decide) ?_
      refine lv_iload_n hx hb dX12_setWindow_48 rfl (lv_at hl 2 rfl) ?_
      refine kiast F V 1 rfl hw.1 dX12_setWindow_49 (fun z_49 ez_49 H locs V => ?_)
      have hw := hw.2 z_49 ez_49
      have V : VW g A s.heap H locs (gX12 g a_this a_this_z a_this_saved a_this_text a_this_line a_this_aside a_this_read a_this_fewest s1 z_49 saves_29 saved_29 length text many line aside isWord entries rdA fewest h) := V
      refine lv_aload_n hx hb dX12_setWindow_50 rfl (lv_at hl 1 rfl) ?_
      refine kVv3 (rest := []) F hl V [0, 1, 2, 3, 4, 5, 6, 7] [] [0, 1, 2, 3, 4, 5, 6, 7] (fun z_51 many_51 line_51 => (gX12 g a_this a_this_z a_this_saved a_this_text a_this_line a_this_aside a_this_read a_this_fewest s1 z_51 saves_29 saved_29 length text many_51 line_51 aside isWord entries rdA fewest h)) a_this 8 0 rfl rfl (kX12_translate l g a_this a_this_z a_this_saved a_this_text a_this_line a_this_aside a_this_read a_this_fewest s1 z_49 saves_29 saved_29 length text many line aside isWord entries rdA fewest h _ hw) gX12_setWindow_X12_translate rfl 0 rfl hdX12_translate rfl rfl (fun _ _ _ => rfl) rfl rfl rfl (by decide) ⟨Nat.le_of_ble_eq_true rfl, Nat.le_of_ble_eq_true rfl⟩ ⟨Nat.le_of_ble_eq_true rfl, Nat.le_of_ble_eq_true rfl⟩ (Nat.le_of_ble_eq_true rfl) rfl dX12_setWindow_51 (fun z_51 many_51 line_51 H locs hw V => ?_)
      refine lv_iload_n hx hb dX12_setWindow_54 rfl (lv_at hl 0 rfl) ?_
      exact ret _ _ _ _ _ _ _ _ _ _ _ rfl dX12_setWindow_55 V hw
    · have hw := hw.2 c_23
      refine lv_iconst (v := 0) hx hb dX12_setWindow_26 (by decide) ?_
      exact ret _ _ _ _ _ _ _ _ _ _ _ rfl dX12_setWindow_27 V hw
  refine lv_aload_n hx hb dX12_setWindow_0 rfl (lv_at hl 0 rfl) ?_
  refine lv_iload_n hx hb dX12_setWindow_1 rfl (lv_at hl 1 rfl) ?_
  refine lv_iconst (v := 0) hx hb dX12_setWindow_2 (by decide) ?_
  refine lv_bipush (v := 30) hx hb dX12_setWindow_3 (by decide) ?_
  refine kSi0n (rest := [.ref a_this]) F hl V (kX12_within l g p1 0 30 _ hw) gX12_setWindow_X12_within rfl 3 rfl hdX12_within ⟨Nat.le_of_ble_eq_true rfl, Nat.le_of_ble_eq_true rfl⟩ ⟨Nat.le_of_ble_eq_true rfl, Nat.le_of_ble_eq_true rfl⟩ (Nat.le_of_ble_eq_true rfl) rfl dX12_setWindow_5 (fun r_5 H locs hw V => ?_)
  refine lv_if_eq (tgt := 15) hx hb dX12_setWindow_8 (by decide) (fun c_8 => ?_) (fun c_8 => ?_)
  · have hw := hw.1 c_8
    refine lv_iconst (v := 1) hx hb dX12_setWindow_15 (by decide) ?_
    exact B16  1 thrown z saves saved many line V hl hw
  · have hw := hw.2 c_8
    refine lv_iconst (v := 0) hx hb dX12_setWindow_11 (by decide) ?_
    refine lv_goto (tgt := 16) hx hb dX12_setWindow_12 (by decide) ?_
    exact B16  0 thrown z saves saved many line V hl hw
theorem hdX12_drop : yX12_drop.cls = RX12 ∧ yX12_drop.cls ≠ "java/lang/invoke/MethodHandle" ∧ yX12_drop.cls ≠ "java/lang/invoke/VarHandle" ∧ (parseMethodDescriptor yX12_drop.desc).map (fun d => d.parameters.length) = some 1 := by decide +kernel
theorem fX12_drop_7 : Cond.fieldLink RX12 7 RX12 "z" "[I" ∈ wsX12_drop := by decide +kernel
theorem iX12_drop_X12 : ∀ w ∈ u_ws RX12 TX12 14, w ∈ wsX12_drop := by decide +kernel
def wX12_drop_15 (p1 : Int32) (P : (Nat → Int32) → Int32 → (Nat → Int32) → Prop) : Nat → Int32 → (Nat → Int32) → Int32 → (Nat → Int32) → Prop
  | 0, _, _, _, _ => False
  | n + 1, v2, z, many, line => vp_in 0 1317 ∧ wX12_entryAt (z (0 : Int32).toNatClampNeg) (fun r_22 => (r_22 ≤ v2 → wX12_translate (fun z_50 many_50 line_50 => P z_50 many_50 line_50) z many line) ∧ (¬ (r_22 ≤ v2) → vp_in (v2 + 14) 1317 ∧ vp_in v2 1317 ∧ ∀ z_42 : Nat → Int32, z_42 = upd z v2.toNatClampNeg (z (v2 + 14).toNatClampNeg) → (wX12_drop_15 p1 P n) (v2 + 1) z_42 many line))
def wX12_drop (p1 : Int32) (P : (Nat → Int32) → Int32 → (Nat → Int32) → Prop) (z : Nat → Int32) (many : Int32) (line : Nat → Int32) : Prop := vp_in 0 1317 ∧ vp_in 0 1317 ∧ ∀ z_9 : Nat → Int32, z_9 = upd z (0 : Int32).toNatClampNeg ((z (0 : Int32).toNatClampNeg) - 1) → wX12_entryAt p1 (fun r_11 => ∃ n_15, wX12_drop_15 p1 P n_15 r_11 z_9 many line)
set_option maxHeartbeats 4000000 in
set_option maxRecDepth 100000 in
theorem kX12_drop (l : Launch) (g : kT) (a_this : Nat) (a_this_z : Nat) (a_this_saved : Nat) (a_this_text : Nat) (a_this_line : Nat) (a_this_aside : Nat) (a_this_read : Nat) (a_this_fewest : Nat) (thrown : Int32) (z : Nat → Int32) (saves : Int32) (saved : Nat → Int32) (length : Int32) (text : Nat → Int32) (many : Int32) (line : Nat → Int32) (aside : Nat → Int32) (isWord : Int32) (entries : Int32) (rdA : Nat → Int32) (fewest : Nat → Int32) (h : Int64) (p1 : Int32) (P : (Nat → Int32) → Int32 → (Nat → Int32) → Prop) (hw : wX12_drop p1 P z many line) : Kv3 l g yX12_drop wsX12_drop 4 83 0 0 [.ref a_this, .int p1] (gX12 g a_this a_this_z a_this_saved a_this_text a_this_line a_this_aside a_this_read a_this_fewest thrown z saves saved length text many line aside isWord entries rdA fewest h) P (fun z many line => (gX12 g a_this a_this_z a_this_saved a_this_text a_this_line a_this_aside a_this_read a_this_fewest thrown z saves saved length text many line aside isWord entries rdA fewest h)) := by
  refine Kv3.mk (cc := cX12_drop) (nL := 3) (by decide +kernel) rfl (Nat.le_of_ble_eq_true rfl) ?_
  intro p e s m below meth c A Q ls F hl V ret _
  have hx := F.x
  have hb := F.b
  have hl : lv_has ls 3 [(0, .ref a_this), (1, .int p1)] := hl
  have B15 :  ∀ (n : Nat), ∀ {H : Heap} {locs : List Loc} {ls : Array Slot} (v2 : Int32) (z : Nat → Int32) (many : Int32) (line : Nat → Int32) (V : VW g A s.heap H locs (gX12 g a_this a_this_z a_this_saved a_this_text a_this_line a_this_aside a_this_read a_this_fewest thrown z saves saved length text many line aside isWord entries rdA fewest h)) (hl : lv_has ls 3 [(0, .ref a_this), (2, .int v2)]) (hw : wX12_drop_15 p1 P n v2 z many line), W p l e (kR 4 83 0 0) s m ([.ref a_this, .int p1] : List Value).toArray below meth c H locs 0 0 Q (F0 m 15 ls []) := by
    intro n
    induction n with
    | zero => intro _ _ _ _ _ _ _ V hl hw; exact hw.elim
    | succ n ih =>
      intro H locs ls v2 z many line V hl hw
      refine lv_iload_n hx hb dX12_drop_15 rfl (lv_at hl 1 rfl) ?_
      refine lv_aload_n hx hb dX12_drop_16 rfl (lv_at hl 0 rfl) ?_
      refine kget F V 8 1 0 rfl rfl iX12_drop_X12 fX12_drop_7 (by decide) rfl rfl dX12_drop_17 ?_
      refine lv_iconst (v := 0) hx hb dX12_drop_20 (by decide) ?_
      refine kiald F V 1 rfl hw.1 dX12_drop_21 ?_
      have hw := hw.2
      refine kSi0n (rest := [.int v2]) F hl V (kX12_entryAt l g (z (0 : Int32).toNatClampNeg) _ hw) gX12_drop_X12_entryAt rfl 1 rfl hdX12_entryAt ⟨Nat.le_of_ble_eq_true rfl, Nat.le_of_ble_eq_true rfl⟩ ⟨Nat.le_of_ble_eq_true rfl, Nat.le_of_ble_eq_true rfl⟩ (Nat.le_of_ble_eq_true rfl) rfl dX12_drop_22 (fun r_22 H locs hw V => ?_)
      refine lv_icmp_ge (tgt := 49) hx hb dX12_drop_25 (by decide) (fun c_25 => ?_) (fun c_25 => ?_)
      · have hw := hw.1 c_25
        refine lv_aload_n hx hb dX12_drop_49 rfl (lv_at hl 0 rfl) ?_
        refine kVv3 (rest := []) F hl V [0, 1, 2, 3, 4, 5, 6, 7] [] [0, 1, 2, 3, 4, 5, 6, 7] (fun z_50 many_50 line_50 => (gX12 g a_this a_this_z a_this_saved a_this_text a_this_line a_this_aside a_this_read a_this_fewest thrown z_50 saves saved length text many_50 line_50 aside isWord entries rdA fewest h)) a_this 8 0 rfl rfl (kX12_translate l g a_this a_this_z a_this_saved a_this_text a_this_line a_this_aside a_this_read a_this_fewest thrown z saves saved length text many line aside isWord entries rdA fewest h _ hw) gX12_drop_X12_translate rfl 0 rfl hdX12_translate rfl rfl (fun _ _ _ => rfl) rfl rfl rfl (by decide) ⟨Nat.le_of_ble_eq_true rfl, Nat.le_of_ble_eq_true rfl⟩ ⟨Nat.le_of_ble_eq_true rfl, Nat.le_of_ble_eq_true rfl⟩ (Nat.le_of_ble_eq_true rfl) rfl dX12_drop_50 (fun z_50 many_50 line_50 H locs hw V => ?_)
        exact ret _ _ _ _ _ _ _ dX12_drop_53 V hw
      · have hw := hw.2 c_25
        refine lv_aload_n hx hb dX12_drop_28 rfl (lv_at hl 0 rfl) ?_
        refine kget F V 8 1 0 rfl rfl iX12_drop_X12 fX12_drop_7 (by decide) rfl rfl dX12_drop_29 ?_
        refine lv_iload_n hx hb dX12_drop_32 rfl (lv_at hl 1 rfl) ?_
        refine lv_aload_n hx hb dX12_drop_33 rfl (lv_at hl 0 rfl) ?_
        refine kget F V 8 1 0 rfl rfl iX12_drop_X12 fX12_drop_7 (by decide) rfl rfl dX12_drop_34 ?_
        refine lv_iload_n hx hb dX12_drop_37 rfl (lv_at hl 1 rfl) ?_
        refine lv_bipush (v := 14) hx hb dX12_drop_38 (by decide) ?_
        refine lv_iadd hx hb dX12_drop_40 ?_
        refine kiald F V 1 rfl hw.1 dX12_drop_41 ?_
        have hw := hw.2
        refine kiast F V 1 rfl hw.1 dX12_drop_42 (fun z_42 ez_42 H locs V => ?_)
        have hw := hw.2 z_42 ez_42
        have V : VW g A s.heap H locs (gX12 g a_this a_this_z a_this_saved a_this_text a_this_line a_this_aside a_this_read a_this_fewest thrown z_42 saves saved length text many line aside isWord entries rdA fewest h) := V
        refine lv_iinc (v := v2 + 1) (lv' := [(2, .int (v2 + 1)), (0, .ref a_this)]) hx hb dX12_drop_43 hl (k := 1) rfl rfl (by decide) rfl (fun ls hl => ?_)
        refine lv_goto (tgt := 15) hx hb dX12_drop_46 (by decide) ?_
        exact ih (v2 + 1) z_42 many line V (lv_sub hl [1, 0] rfl) hw
  refine lv_aload_n hx hb dX12_drop_0 rfl (lv_at hl 0 rfl) ?_
  refine kget F V 8 1 0 rfl rfl iX12_drop_X12 fX12_drop_7 (by decide) rfl rfl dX12_drop_1 ?_
  refine lv_iconst (v := 0) hx hb dX12_drop_4 (by decide) ?_
  refine lv_dup2_11 hx hb dX12_drop_5 rfl rfl ?_
  refine kiald F V 1 rfl hw.1 dX12_drop_6 ?_
  have hw := hw.2
  refine lv_iconst (v := 1) hx hb dX12_drop_7 (by decide) ?_
  refine lv_isub hx hb dX12_drop_8 ?_
  refine kiast F V 1 rfl hw.1 dX12_drop_9 (fun z_9 ez_9 H locs V => ?_)
  have hw := hw.2 z_9 ez_9
  have V : VW g A s.heap H locs (gX12 g a_this a_this_z a_this_saved a_this_text a_this_line a_this_aside a_this_read a_this_fewest thrown z_9 saves saved length text many line aside isWord entries rdA fewest h) := V
  refine lv_iload_n hx hb dX12_drop_10 rfl (lv_at hl 1 rfl) ?_
  refine kSi0n (rest := []) F hl V (kX12_entryAt l g p1 _ hw) gX12_drop_X12_entryAt rfl 1 rfl hdX12_entryAt ⟨Nat.le_of_ble_eq_true rfl, Nat.le_of_ble_eq_true rfl⟩ ⟨Nat.le_of_ble_eq_true rfl, Nat.le_of_ble_eq_true rfl⟩ (Nat.le_of_ble_eq_true rfl) rfl dX12_drop_11 (fun r_11 H locs hw V => ?_)
  refine lv_istore_n (lv' := [(2, .int r_11), (0, .ref a_this), (1, .int p1)]) hx hb dX12_drop_14 rfl hl (by decide) rfl (fun ls hl => ?_)
  obtain ⟨n_15, hw⟩ := hw
  exact B15  n_15 r_11 z_9 many line V (lv_sub hl [1, 0] rfl) hw
theorem hdX12_removeEntry : yX12_removeEntry.cls = RX12 ∧ yX12_removeEntry.cls ≠ "java/lang/invoke/MethodHandle" ∧ yX12_removeEntry.cls ≠ "java/lang/invoke/VarHandle" ∧ (parseMethodDescriptor yX12_removeEntry.desc).map (fun d => d.parameters.length) = some 1 := by decide +kernel
theorem fX12_removeEntry_31 : Cond.fieldLink RX12 31 RX12 "thrown" "I" ∈ wsX12_removeEntry := by decide +kernel
theorem iX12_removeEntry_X12 : ∀ w ∈ u_ws RX12 TX12 14, w ∈ wsX12_removeEntry := by decide +kernel
theorem fX12_removeEntry_7 : Cond.fieldLink RX12 7 RX12 "z" "[I" ∈ wsX12_removeEntry := by decide +kernel
def wX12_removeEntry_14 (p1 : Int32) (P : Int32 → Int32 → (Nat → Int32) → Int32 → (Nat → Int32) → Int32 → (Nat → Int32) → Prop) (s1 : Int32) (thrown : Int32) (z : Nat → Int32) (saves : Int32) (saved : Nat → Int32) (many : Int32) (line : Nat → Int32) : Prop := (s1 ≤ 0 → wX12_save z (fun saves_27 saved_27 => wX12_drop p1 (fun z_32 many_32 line_32 => vp_in 399 1317 ∧ P (z_32 (399 : Int32).toNatClampNeg) s1 z_32 saves_27 saved_27 many_32 line_32) z many line) saves saved) ∧ (¬ (s1 ≤ 0) → P 0 s1 z saves saved many line)
def wX12_removeEntry (p1 : Int32) (P : Int32 → Int32 → (Nat → Int32) → Int32 → (Nat → Int32) → Int32 → (Nat → Int32) → Prop) (thrown : Int32) (z : Nat → Int32) (saves : Int32) (saved : Nat → Int32) (many : Int32) (line : Nat → Int32) : Prop := wX12_isEntry z p1 (fun r_3 => (r_3 = 0 → wX12_removeEntry_14 p1 P 1 thrown z saves saved many line) ∧ (¬ (r_3 = 0) → wX12_removeEntry_14 p1 P 0 thrown z saves saved many line))
set_option maxHeartbeats 4000000 in
set_option maxRecDepth 100000 in
theorem kX12_removeEntry (l : Launch) (g : kT) (a_this : Nat) (a_this_z : Nat) (a_this_saved : Nat) (a_this_text : Nat) (a_this_line : Nat) (a_this_aside : Nat) (a_this_read : Nat) (a_this_fewest : Nat) (thrown : Int32) (z : Nat → Int32) (saves : Int32) (saved : Nat → Int32) (length : Int32) (text : Nat → Int32) (many : Int32) (line : Nat → Int32) (aside : Nat → Int32) (isWord : Int32) (entries : Int32) (rdA : Nat → Int32) (fewest : Nat → Int32) (h : Int64) (p1 : Int32) (P : Int32 → Int32 → (Nat → Int32) → Int32 → (Nat → Int32) → Int32 → (Nat → Int32) → Prop) (hw : wX12_removeEntry p1 P thrown z saves saved many line) : Ki6 l g yX12_removeEntry wsX12_removeEntry 5 105 0 0 [.ref a_this, .int p1] (gX12 g a_this a_this_z a_this_saved a_this_text a_this_line a_this_aside a_this_read a_this_fewest thrown z saves saved length text many line aside isWord entries rdA fewest h) P (fun thrown z saves saved many line => (gX12 g a_this a_this_z a_this_saved a_this_text a_this_line a_this_aside a_this_read a_this_fewest thrown z saves saved length text many line aside isWord entries rdA fewest h)) := by
  refine Ki6.mk (cc := cX12_removeEntry) (nL := 2) (ty := .int) (by decide +kernel) rfl (Nat.le_of_ble_eq_true rfl) ?_
  intro p e s m below meth c A Q ls F hl V ret
  have hx := F.x
  have hb := F.b
  have hl : lv_has ls 2 [(0, .ref a_this), (1, .int p1)] := hl
  have B14 :  ∀ {H : Heap} {locs : List Loc} {ls : Array Slot} (s1 : Int32) (thrown : Int32) (z : Nat → Int32) (saves : Int32) (saved : Nat → Int32) (many : Int32) (line : Nat → Int32) (V : VW g A s.heap H locs (gX12 g a_this a_this_z a_this_saved a_this_text a_this_line a_this_aside a_this_read a_this_fewest thrown z saves saved length text many line aside isWord entries rdA fewest h)) (hl : lv_has ls 2 [(0, .ref a_this), (1, .int p1)]) (hw : wX12_removeEntry_14 p1 P s1 thrown z saves saved many line), W p l e (kR 5 105 0 0) s m ([.ref a_this, .int p1] : List Value).toArray below meth c H locs 0 0 Q (F0 m 14 ls [.int s1, .ref a_this]) := by
    intro  H locs ls s1 thrown z saves saved many line V hl hw
    refine kput F V 8 0 0 tyX12_ok nmX12 rfl rfl iX12_removeEntry_X12 fX12_removeEntry_31 (by decide) rfl rfl rfl rfl (Nat.le_of_ble_eq_true rfl) dX12_removeEntry_14 (fun H locs V => ?_)
    have V : VW g A s.heap H locs (gX12 g a_this a_this_z a_this_saved a_this_text a_this_line a_this_aside a_this_read a_this_fewest s1 z saves saved length text many line aside isWord entries rdA fewest h) := V
    refine lv_aload_n hx hb dX12_removeEntry_17 rfl (lv_at hl 0 rfl) ?_
    refine kget F V 8 0 0 rfl rfl iX12_removeEntry_X12 fX12_removeEntry_31 (by decide) rfl rfl dX12_removeEntry_18 ?_
    refine lv_if_le (tgt := 26) hx hb dX12_removeEntry_21 (by decide) (fun c_21 => ?_) (fun c_21 => ?_)
    · have hw := hw.1 c_21
      refine lv_aload_n hx hb dX12_removeEntry_26 rfl (lv_at hl 0 rfl) ?_
      refine kVv2 (rest := []) F hl V [0, 1, 2, 3, 4, 5, 6, 7] [] [0, 1, 2, 3, 4, 5, 6, 7] (fun saves_27 saved_27 => (gX12 g a_this a_this_z a_this_saved a_this_text a_this_line a_this_aside a_this_read a_this_fewest s1 z saves_27 saved_27 length text many line aside isWord entries rdA fewest h)) a_this 8 0 rfl rfl (kX12_save l g a_this a_this_z a_this_saved a_this_text a_this_line a_this_aside a_this_read a_this_fewest s1 z saves saved length text many line aside isWord entries rdA fewest h _ hw) gX12_removeEntry_X12_save rfl 0 rfl hdX12_save rfl rfl (fun _ _ => rfl) rfl rfl rfl (by decide) ⟨Nat.le_of_ble_eq_true rfl, Nat.le_of_ble_eq_true rfl⟩ ⟨Nat.le_of_ble_eq_true rfl, Nat.le_of_ble_eq_true rfl⟩ (Nat.le_of_ble_eq_true rfl) rfl dX12_removeEntry_27 (fun saves_27 saved_27 H locs hw V => ?_)
      refine lv_aload_n hx hb dX12_removeEntry_30 rfl (lv_at hl 0 rfl) ?_
      refine lv_iload_n hx hb dX12_removeEntry_31 rfl (lv_at hl 1 rfl) ?_
      refine kVv3 (rest := []) F hl V [0, 1, 2, 3, 4, 5, 6, 7] [] [0, 1, 2, 3, 4, 5, 6, 7] (fun z_32 many_32 line_32 => (gX12 g a_this a_this_z a_this_saved a_this_text a_this_line a_this_aside a_this_read a_this_fewest s1 z_32 saves_27 saved_27 length text many_32 line_32 aside isWord entries rdA fewest h)) a_this 8 0 rfl rfl (kX12_drop l g a_this a_this_z a_this_saved a_this_text a_this_line a_this_aside a_this_read a_this_fewest s1 z saves_27 saved_27 length text many line aside isWord entries rdA fewest h p1 _ hw) gX12_removeEntry_X12_drop rfl 1 rfl hdX12_drop rfl rfl (fun _ _ _ => rfl) rfl rfl rfl (by decide) ⟨Nat.le_of_ble_eq_true rfl, Nat.le_of_ble_eq_true rfl⟩ ⟨Nat.le_of_ble_eq_true rfl, Nat.le_of_ble_eq_true rfl⟩ (Nat.le_of_ble_eq_true rfl) rfl dX12_removeEntry_32 (fun z_32 many_32 line_32 H locs hw V => ?_)
      refine lv_aload_n hx hb dX12_removeEntry_35 rfl (lv_at hl 0 rfl) ?_
      refine kget F V 8 1 0 rfl rfl iX12_removeEntry_X12 fX12_removeEntry_7 (by decide) rfl rfl dX12_removeEntry_36 ?_
      refine lv_sipush (v := 399) hx hb dX12_removeEntry_39 (by decide) ?_
      refine kiald F V 1 rfl hw.1 dX12_removeEntry_42 ?_
      have hw := hw.2
      exact ret _ _ _ _ _ _ _ _ _ _ _ rfl dX12_removeEntry_43 V hw
    · have hw := hw.2 c_21
      refine lv_iconst (v := 0) hx hb dX12_removeEntry_24 (by decide) ?_
      exact ret _ _ _ _ _ _ _ _ _ _ _ rfl dX12_removeEntry_25 V hw
  refine lv_aload_n hx hb dX12_removeEntry_0 rfl (lv_at hl 0 rfl) ?_
  refine lv_aload_n hx hb dX12_removeEntry_1 rfl (lv_at hl 0 rfl) ?_
  refine lv_iload_n hx hb dX12_removeEntry_2 rfl (lv_at hl 1 rfl) ?_
  refine kVi0 (rest := [.ref a_this]) F hl V [0, 1, 2, 3, 4, 5, 6, 7] [] [0, 1, 2, 3, 4, 5, 6, 7] (gX12 g a_this a_this_z a_this_saved a_this_text a_this_line a_this_aside a_this_read a_this_fewest thrown z saves saved length text many line aside isWord entries rdA fewest h) a_this 8 0 rfl rfl (kX12_isEntry l g a_this a_this_z a_this_saved a_this_text a_this_line a_this_aside a_this_read a_this_fewest thrown z saves saved length text many line aside isWord entries rdA fewest h p1 _ hw) gX12_removeEntry_X12_isEntry rfl 1 rfl hdX12_isEntry rfl rfl (fun _ => rfl) rfl rfl rfl (by decide) ⟨Nat.le_of_ble_eq_true rfl, Nat.le_of_ble_eq_true rfl⟩ ⟨Nat.le_of_ble_eq_true rfl, Nat.le_of_ble_eq_true rfl⟩ (Nat.le_of_ble_eq_true rfl) rfl dX12_removeEntry_3 (fun r_3 H locs hw V => ?_)
  refine lv_if_eq (tgt := 13) hx hb dX12_removeEntry_6 (by decide) (fun c_6 => ?_) (fun c_6 => ?_)
  · have hw := hw.1 c_6
    refine lv_iconst (v := 1) hx hb dX12_removeEntry_13 (by decide) ?_
    exact B14  1 thrown z saves saved many line V hl hw
  · have hw := hw.2 c_6
    refine lv_iconst (v := 0) hx hb dX12_removeEntry_9 (by decide) ?_
    refine lv_goto (tgt := 14) hx hb dX12_removeEntry_10 (by decide) ?_
    exact B14  0 thrown z saves saved many line V hl hw
theorem hdX12_madeBy : yX12_madeBy.cls = RX12 ∧ yX12_madeBy.cls ≠ "java/lang/invoke/MethodHandle" ∧ yX12_madeBy.cls ≠ "java/lang/invoke/VarHandle" ∧ (parseMethodDescriptor yX12_madeBy.desc).map (fun d => d.parameters.length) = some 1 := by decide +kernel
theorem fX12_madeBy_7 : Cond.fieldLink RX12 7 RX12 "z" "[I" ∈ wsX12_madeBy := by decide +kernel
theorem iX12_madeBy_X12 : ∀ w ∈ u_ws RX12 TX12 14, w ∈ wsX12_madeBy := by decide +kernel
def wX12_madeBy_44 (z : Nat → Int32) (p1 : Int32) (K11 : Int32 → Int32 → Prop) (P : Int32 → Prop) (v3 : Int32) (s0 : Int32) (s1 : Int32) : Prop := ∀ v2_45 : Int32, v2_45 = (s0 + s1) → K11 v2_45 (v3 + 1)
def wX12_madeBy_11 (z : Nat → Int32) (p1 : Int32) (P : Int32 → Prop) : Nat → Int32 → Int32 → Prop
  | 0, _, _ => False
  | n + 1, v2, v3 => vp_in 399 1317 ∧ ((z (399 : Int32).toNatClampNeg) ≤ v3 → P v2) ∧ (¬ ((z (399 : Int32).toNatClampNeg) ≤ v3) → wX12_itemAt v3 (fun r_29 => vp_in (r_29 + 1) 1317 ∧ (¬ (z (r_29 + 1).toNatClampNeg) = p1 → wX12_madeBy_44 z p1 (wX12_madeBy_11 z p1 P n) P v3 v2 0) ∧ ((z (r_29 + 1).toNatClampNeg) = p1 → wX12_madeBy_44 z p1 (wX12_madeBy_11 z p1 P n) P v3 v2 1)))
def wX12_madeBy (z : Nat → Int32) (p1 : Int32) (P : Int32 → Prop) : Prop := vp_in 1315 1317 ∧ ∀ v3_10 : Int32, v3_10 = (z (1315 : Int32).toNatClampNeg) → ∃ n_11, wX12_madeBy_11 z p1 P n_11 0 v3_10
set_option maxHeartbeats 4000000 in
set_option maxRecDepth 100000 in
theorem kX12_madeBy (l : Launch) (g : kT) (a_this : Nat) (a_this_z : Nat) (a_this_saved : Nat) (a_this_text : Nat) (a_this_line : Nat) (a_this_aside : Nat) (a_this_read : Nat) (a_this_fewest : Nat) (thrown : Int32) (z : Nat → Int32) (saves : Int32) (saved : Nat → Int32) (length : Int32) (text : Nat → Int32) (many : Int32) (line : Nat → Int32) (aside : Nat → Int32) (isWord : Int32) (entries : Int32) (rdA : Nat → Int32) (fewest : Nat → Int32) (h : Int64) (p1 : Int32) (P : Int32 → Prop) (hw : wX12_madeBy z p1 P) : Ki0 l g yX12_madeBy wsX12_madeBy 1 20 0 0 [.ref a_this, .int p1] (gX12 g a_this a_this_z a_this_saved a_this_text a_this_line a_this_aside a_this_read a_this_fewest thrown z saves saved length text many line aside isWord entries rdA fewest h) P (gX12 g a_this a_this_z a_this_saved a_this_text a_this_line a_this_aside a_this_read a_this_fewest thrown z saves saved length text many line aside isWord entries rdA fewest h) := by
  refine Ki0.mk (cc := cX12_madeBy) (nL := 4) (ty := .int) (by decide +kernel) rfl (Nat.le_of_ble_eq_true rfl) ?_
  intro p e s m below meth c A Q ls F hl V ret
  have hx := F.x
  have hb := F.b
  have hl : lv_has ls 4 [(0, .ref a_this), (1, .int p1)] := hl
  have B44 : ∀ (K11 : Int32 → Int32 → Prop) (k11 : ∀ {H : Heap} {locs : List Loc} {ls : Array Slot} (v2 : Int32) (v3 : Int32), VW g A s.heap H locs (gX12 g a_this a_this_z a_this_saved a_this_text a_this_line a_this_aside a_this_read a_this_fewest thrown z saves saved length text many line aside isWord entries rdA fewest h) → lv_has ls 4 [(0, .ref a_this), (1, .int p1), (2, .int v2), (3, .int v3)] → K11 v2 v3 → W p l e (kR 1 20 0 0) s m ([.ref a_this, .int p1] : List Value).toArray below meth c H locs 0 0 Q (F0 m 11 ls [])), ∀ {H : Heap} {locs : List Loc} {ls : Array Slot} (v3 : Int32) (s0 : Int32) (s1 : Int32) (V : VW g A s.heap H locs (gX12 g a_this a_this_z a_this_saved a_this_text a_this_line a_this_aside a_this_read a_this_fewest thrown z saves saved length text many line aside isWord entries rdA fewest h)) (hl : lv_has ls 4 [(0, .ref a_this), (1, .int p1), (3, .int v3)]) (hw : wX12_madeBy_44 z p1 K11 P v3 s0 s1), W p l e (kR 1 20 0 0) s m ([.ref a_this, .int p1] : List Value).toArray below meth c H locs 0 0 Q (F0 m 44 ls [.int s1, .int s0]) := by
    intro K11 k11 H locs ls v3 s0 s1 V hl hw
    refine lv_iadd hx hb dX12_madeBy_44 ?_
    refine lv_topi (fun v2_45 ev2_45 => ?_)
    have hw := hw v2_45 ev2_45
    refine lv_istore_n (lv' := [(2, .int v2_45), (0, .ref a_this), (1, .int p1), (3, .int v3)]) hx hb dX12_madeBy_45 rfl hl (by decide) rfl (fun ls hl => ?_)
    refine lv_iinc (v := v3 + 1) (lv' := [(3, .int (v3 + 1)), (2, .int v2_45), (0, .ref a_this), (1, .int p1)]) hx hb dX12_madeBy_46 hl (k := 3) rfl rfl (by decide) rfl (fun ls hl => ?_)
    refine lv_goto (tgt := 11) hx hb dX12_madeBy_49 (by decide) ?_
    exact k11 v2_45 (v3 + 1) V (lv_sub hl [2, 3, 1, 0] rfl) hw
  have B11 :  ∀ (n : Nat), ∀ {H : Heap} {locs : List Loc} {ls : Array Slot} (v2 : Int32) (v3 : Int32) (V : VW g A s.heap H locs (gX12 g a_this a_this_z a_this_saved a_this_text a_this_line a_this_aside a_this_read a_this_fewest thrown z saves saved length text many line aside isWord entries rdA fewest h)) (hl : lv_has ls 4 [(0, .ref a_this), (1, .int p1), (2, .int v2), (3, .int v3)]) (hw : wX12_madeBy_11 z p1 P n v2 v3), W p l e (kR 1 20 0 0) s m ([.ref a_this, .int p1] : List Value).toArray below meth c H locs 0 0 Q (F0 m 11 ls []) := by
    intro n
    induction n with
    | zero => intro _ _ _ _ _ V hl hw; exact hw.elim
    | succ n ih =>
      intro H locs ls v2 v3 V hl hw
      refine lv_iload_n hx hb dX12_madeBy_11 rfl (lv_at hl 3 rfl) ?_
      refine lv_aload_n hx hb dX12_madeBy_12 rfl (lv_at hl 0 rfl) ?_
      refine kget F V 8 1 0 rfl rfl iX12_madeBy_X12 fX12_madeBy_7 (by decide) rfl rfl dX12_madeBy_13 ?_
      refine lv_sipush (v := 399) hx hb dX12_madeBy_16 (by decide) ?_
      refine kiald F V 1 rfl hw.1 dX12_madeBy_19 ?_
      have hw := hw.2
      refine lv_icmp_ge (tgt := 52) hx hb dX12_madeBy_20 (by decide) (fun c_20 => ?_) (fun c_20 => ?_)
      · have hw := hw.1 c_20
        refine lv_iload_n hx hb dX12_madeBy_52 rfl (lv_at hl 2 rfl) ?_
        exact ret _ _ _ _ _ rfl dX12_madeBy_53 V hw
      · have hw := hw.2 c_20
        refine lv_iload_n hx hb dX12_madeBy_23 rfl (lv_at hl 2 rfl) ?_
        refine lv_aload_n hx hb dX12_madeBy_24 rfl (lv_at hl 0 rfl) ?_
        refine kget F V 8 1 0 rfl rfl iX12_madeBy_X12 fX12_madeBy_7 (by decide) rfl rfl dX12_madeBy_25 ?_
        refine lv_iload_n hx hb dX12_madeBy_28 rfl (lv_at hl 3 rfl) ?_
        refine kSi0n (rest := [.ref a_this_z, .int v2]) F hl V (kX12_itemAt l g v3 _ hw) gX12_madeBy_X12_itemAt rfl 1 rfl hdX12_itemAt ⟨Nat.le_of_ble_eq_true rfl, Nat.le_of_ble_eq_true rfl⟩ ⟨Nat.le_of_ble_eq_true rfl, Nat.le_of_ble_eq_true rfl⟩ (Nat.le_of_ble_eq_true rfl) rfl dX12_madeBy_29 (fun r_29 H locs hw V => ?_)
        refine lv_iconst (v := 1) hx hb dX12_madeBy_32 (by decide) ?_
        refine lv_iadd hx hb dX12_madeBy_33 ?_
        refine kiald F V 1 rfl hw.1 dX12_madeBy_34 ?_
        have hw := hw.2
        refine lv_iload_n hx hb dX12_madeBy_35 rfl (lv_at hl 1 rfl) ?_
        refine lv_icmp_ne (tgt := 43) hx hb dX12_madeBy_36 (by decide) (fun c_36 => ?_) (fun c_36 => ?_)
        · have hw := hw.1 c_36
          refine lv_iconst (v := 0) hx hb dX12_madeBy_43 (by decide) ?_
          exact B44 (wX12_madeBy_11 z p1 P n) ih v3 v2 0 V (lv_sub hl [0, 1, 3] rfl) hw
        · have hw := hw.2 c_36
          refine lv_iconst (v := 1) hx hb dX12_madeBy_39 (by decide) ?_
          refine lv_goto (tgt := 44) hx hb dX12_madeBy_40 (by decide) ?_
          exact B44 (wX12_madeBy_11 z p1 P n) ih v3 v2 1 V (lv_sub hl [0, 1, 3] rfl) hw
  refine lv_iconst (v := 0) hx hb dX12_madeBy_0 (by decide) ?_
  refine lv_istore_n (lv' := [(2, .int 0), (0, .ref a_this), (1, .int p1)]) hx hb dX12_madeBy_1 rfl hl (by decide) rfl (fun ls hl => ?_)
  refine lv_aload_n hx hb dX12_madeBy_2 rfl (lv_at hl 1 rfl) ?_
  refine kget F V 8 1 0 rfl rfl iX12_madeBy_X12 fX12_madeBy_7 (by decide) rfl rfl dX12_madeBy_3 ?_
  refine lv_sipush (v := 1315) hx hb dX12_madeBy_6 (by decide) ?_
  refine kiald F V 1 rfl hw.1 dX12_madeBy_9 ?_
  have hw := hw.2
  refine lv_topi (fun v3_10 ev3_10 => ?_)
  have hw := hw v3_10 ev3_10
  refine lv_istore_n (lv' := [(3, .int v3_10), (2, .int 0), (0, .ref a_this), (1, .int p1)]) hx hb dX12_madeBy_10 rfl hl (by decide) rfl (fun ls hl => ?_)
  obtain ⟨n_11, hw⟩ := hw
  exact B11  n_11 0 v3_10 V (lv_sub hl [2, 3, 1, 0] rfl) hw
theorem hdX12_renameEntry : yX12_renameEntry.cls = RX12 ∧ yX12_renameEntry.cls ≠ "java/lang/invoke/MethodHandle" ∧ yX12_renameEntry.cls ≠ "java/lang/invoke/VarHandle" ∧ (parseMethodDescriptor yX12_renameEntry.desc).map (fun d => d.parameters.length) = some 2 := by decide +kernel
theorem fX12_renameEntry_31 : Cond.fieldLink RX12 31 RX12 "thrown" "I" ∈ wsX12_renameEntry := by decide +kernel
theorem iX12_renameEntry_X12 : ∀ w ∈ u_ws RX12 TX12 14, w ∈ wsX12_renameEntry := by decide +kernel
theorem fX12_renameEntry_7 : Cond.fieldLink RX12 7 RX12 "z" "[I" ∈ wsX12_renameEntry := by decide +kernel
def wX12_renameEntry_60 (p1 : Int32) (p2 : Int32) (P : Int32 → Int32 → (Nat → Int32) → Int32 → (Nat → Int32) → Int32 → (Nat → Int32) → Prop) : Nat → Int32 → Int32 → Int32 → (Nat → Int32) → Int32 → (Nat → Int32) → Int32 → (Nat → Int32) → Prop
  | 0, _, _, _, _, _, _, _, _ => False
  | n + 1, v3, v4, thrown, z, saves, saved, many, line => (14 ≤ v4 → wX12_translate (fun z_98 many_98 line_98 => P v3 thrown z_98 saves saved many_98 line_98) z many line) ∧ (¬ (14 ≤ v4) → wX12_entryAt p1 (fun r_72 => wX12_entryAt p2 (fun r_83 => vp_in (r_83 + v4) 1317 ∧ vp_in (r_72 + v4) 1317 ∧ ∀ z_90 : Nat → Int32, z_90 = upd z (r_72 + v4).toNatClampNeg (z (r_83 + v4).toNatClampNeg) → (wX12_renameEntry_60 p1 p2 P n) v3 (v4 + 1) thrown z_90 saves saved many line)))
def wX12_renameEntry_56 (p1 : Int32) (p2 : Int32) (P : Int32 → Int32 → (Nat → Int32) → Int32 → (Nat → Int32) → Int32 → (Nat → Int32) → Prop) (s0 : Int32) (thrown : Int32) (z : Nat → Int32) (saves : Int32) (saved : Nat → Int32) (many : Int32) (line : Nat → Int32) : Prop := ∃ n_60, wX12_renameEntry_60 p1 p2 P n_60 s0 5 thrown z saves saved many line
def wX12_renameEntry_22 (p1 : Int32) (p2 : Int32) (P : Int32 → Int32 → (Nat → Int32) → Int32 → (Nat → Int32) → Int32 → (Nat → Int32) → Prop) (s1 : Int32) (thrown : Int32) (z : Nat → Int32) (saves : Int32) (saved : Nat → Int32) (many : Int32) (line : Nat → Int32) : Prop := (s1 ≤ 0 → wX12_save z (fun saves_35 saved_35 => wX12_isSameWord z p1 p2 (fun r_41 => (r_41 = 0 → wX12_madeBy z p1 (fun r_53 => wX12_renameEntry_56 p1 p2 P r_53 s1 z saves_35 saved_35 many line)) ∧ (¬ (r_41 = 0) → wX12_renameEntry_56 p1 p2 P 0 s1 z saves_35 saved_35 many line))) saves saved) ∧ (¬ (s1 ≤ 0) → P 0 s1 z saves saved many line)
def wX12_renameEntry_21 (p1 : Int32) (p2 : Int32) (P : Int32 → Int32 → (Nat → Int32) → Int32 → (Nat → Int32) → Int32 → (Nat → Int32) → Prop) (thrown : Int32) (z : Nat → Int32) (saves : Int32) (saved : Nat → Int32) (many : Int32) (line : Nat → Int32) : Prop := wX12_renameEntry_22 p1 p2 P 1 thrown z saves saved many line
def wX12_renameEntry (p1 : Int32) (p2 : Int32) (P : Int32 → Int32 → (Nat → Int32) → Int32 → (Nat → Int32) → Int32 → (Nat → Int32) → Prop) (thrown : Int32) (z : Nat → Int32) (saves : Int32) (saved : Nat → Int32) (many : Int32) (line : Nat → Int32) : Prop := wX12_isEntry z p1 (fun r_3 => (r_3 = 0 → wX12_renameEntry_21 p1 p2 P thrown z saves saved many line) ∧ (¬ (r_3 = 0) → wX12_isEntry z p2 (fun r_11 => (r_11 = 0 → wX12_renameEntry_21 p1 p2 P thrown z saves saved many line) ∧ (¬ (r_11 = 0) → wX12_renameEntry_22 p1 p2 P 0 thrown z saves saved many line))))
set_option maxHeartbeats 4000000 in
set_option maxRecDepth 100000 in
theorem kX12_renameEntry (l : Launch) (g : kT) (a_this : Nat) (a_this_z : Nat) (a_this_saved : Nat) (a_this_text : Nat) (a_this_line : Nat) (a_this_aside : Nat) (a_this_read : Nat) (a_this_fewest : Nat) (thrown : Int32) (z : Nat → Int32) (saves : Int32) (saved : Nat → Int32) (length : Int32) (text : Nat → Int32) (many : Int32) (line : Nat → Int32) (aside : Nat → Int32) (isWord : Int32) (entries : Int32) (rdA : Nat → Int32) (fewest : Nat → Int32) (h : Int64) (p1 : Int32) (p2 : Int32) (P : Int32 → Int32 → (Nat → Int32) → Int32 → (Nat → Int32) → Int32 → (Nat → Int32) → Prop) (hw : wX12_renameEntry p1 p2 P thrown z saves saved many line) : Ki6 l g yX12_renameEntry wsX12_renameEntry 4 83 0 0 [.ref a_this, .int p1, .int p2] (gX12 g a_this a_this_z a_this_saved a_this_text a_this_line a_this_aside a_this_read a_this_fewest thrown z saves saved length text many line aside isWord entries rdA fewest h) P (fun thrown z saves saved many line => (gX12 g a_this a_this_z a_this_saved a_this_text a_this_line a_this_aside a_this_read a_this_fewest thrown z saves saved length text many line aside isWord entries rdA fewest h)) := by
  refine Ki6.mk (cc := cX12_renameEntry) (nL := 5) (ty := .int) (by decide +kernel) rfl (Nat.le_of_ble_eq_true rfl) ?_
  intro p e s m below meth c A Q ls F hl V ret
  have hx := F.x
  have hb := F.b
  have hl : lv_has ls 5 [(0, .ref a_this), (1, .int p1), (2, .int p2)] := hl
  have B60 :  ∀ (n : Nat), ∀ {H : Heap} {locs : List Loc} {ls : Array Slot} (v3 : Int32) (v4 : Int32) (thrown : Int32) (z : Nat → Int32) (saves : Int32) (saved : Nat → Int32) (many : Int32) (line : Nat → Int32) (V : VW g A s.heap H locs (gX12 g a_this a_this_z a_this_saved a_this_text a_this_line a_this_aside a_this_read a_this_fewest thrown z saves saved length text many line aside isWord entries rdA fewest h)) (hl : lv_has ls 5 [(0, .ref a_this), (1, .int p1), (2, .int p2), (3, .int v3), (4, .int v4)]) (hw : wX12_renameEntry_60 p1 p2 P n v3 v4 thrown z saves saved many line), W p l e (kR 4 83 0 0) s m ([.ref a_this, .int p1, .int p2] : List Value).toArray below meth c H locs 0 0 Q (F0 m 60 ls []) := by
    intro n
    induction n with
    | zero => intro _ _ _ _ _ _ _ _ _ _ _ V hl hw; exact hw.elim
    | succ n ih =>
      intro H locs ls v3 v4 thrown z saves saved many line V hl hw
      refine lv_iload hx hb dX12_renameEntry_60 (lv_at hl 4 rfl) ?_
      refine lv_bipush (v := 14) hx hb dX12_renameEntry_62 (by decide) ?_
      refine lv_icmp_ge (tgt := 97) hx hb dX12_renameEntry_64 (by decide) (fun c_64 => ?_) (fun c_64 => ?_)
      · have hw := hw.1 c_64
        refine lv_aload_n hx hb dX12_renameEntry_97 rfl (lv_at hl 0 rfl) ?_
        refine kVv3 (rest := []) F hl V [0, 1, 2, 3, 4, 5, 6, 7] [] [0, 1, 2, 3, 4, 5, 6, 7] (fun z_98 many_98 line_98 => (gX12 g a_this a_this_z a_this_saved a_this_text a_this_line a_this_aside a_this_read a_this_fewest thrown z_98 saves saved length text many_98 line_98 aside isWord entries rdA fewest h)) a_this 8 0 rfl rfl (kX12_translate l g a_this a_this_z a_this_saved a_this_text a_this_line a_this_aside a_this_read a_this_fewest thrown z saves saved length text many line aside isWord entries rdA fewest h _ hw) gX12_renameEntry_X12_translate rfl 0 rfl hdX12_translate rfl rfl (fun _ _ _ => rfl) rfl rfl rfl (by decide) ⟨Nat.le_of_ble_eq_true rfl, Nat.le_of_ble_eq_true rfl⟩ ⟨Nat.le_of_ble_eq_true rfl, Nat.le_of_ble_eq_true rfl⟩ (Nat.le_of_ble_eq_true rfl) rfl dX12_renameEntry_98 (fun z_98 many_98 line_98 H locs hw V => ?_)
        refine lv_iload_n hx hb dX12_renameEntry_101 rfl (lv_at hl 3 rfl) ?_
        exact ret _ _ _ _ _ _ _ _ _ _ _ rfl dX12_renameEntry_102 V hw
      · have hw := hw.2 c_64
        refine lv_aload_n hx hb dX12_renameEntry_67 rfl (lv_at hl 0 rfl) ?_
        refine kget F V 8 1 0 rfl rfl iX12_renameEntry_X12 fX12_renameEntry_7 (by decide) rfl rfl dX12_renameEntry_68 ?_
        refine lv_iload_n hx hb dX12_renameEntry_71 rfl (lv_at hl 1 rfl) ?_
        refine kSi0n (rest := [.ref a_this_z]) F hl V (kX12_entryAt l g p1 _ hw) gX12_renameEntry_X12_entryAt rfl 1 rfl hdX12_entryAt ⟨Nat.le_of_ble_eq_true rfl, Nat.le_of_ble_eq_true rfl⟩ ⟨Nat.le_of_ble_eq_true rfl, Nat.le_of_ble_eq_true rfl⟩ (Nat.le_of_ble_eq_true rfl) rfl dX12_renameEntry_72 (fun r_72 H locs hw V => ?_)
        refine lv_iload hx hb dX12_renameEntry_75 (lv_at hl 4 rfl) ?_
        refine lv_iadd hx hb dX12_renameEntry_77 ?_
        refine lv_aload_n hx hb dX12_renameEntry_78 rfl (lv_at hl 0 rfl) ?_
        refine kget F V 8 1 0 rfl rfl iX12_renameEntry_X12 fX12_renameEntry_7 (by decide) rfl rfl dX12_renameEntry_79 ?_
        refine lv_iload_n hx hb dX12_renameEntry_82 rfl (lv_at hl 2 rfl) ?_
        refine kSi0n (rest := [.ref a_this_z, .int (r_72 + v4), .ref a_this_z]) F hl V (kX12_entryAt l g p2 _ hw) gX12_renameEntry_X12_entryAt rfl 1 rfl hdX12_entryAt ⟨Nat.le_of_ble_eq_true rfl, Nat.le_of_ble_eq_true rfl⟩ ⟨Nat.le_of_ble_eq_true rfl, Nat.le_of_ble_eq_true rfl⟩ (Nat.le_of_ble_eq_true rfl) rfl dX12_renameEntry_83 (fun r_83 H locs hw V => ?_)
        refine lv_iload hx hb dX12_renameEntry_86 (lv_at hl 4 rfl) ?_
        refine lv_iadd hx hb dX12_renameEntry_88 ?_
        refine kiald F V 1 rfl hw.1 dX12_renameEntry_89 ?_
        have hw := hw.2
        refine kiast F V 1 rfl hw.1 dX12_renameEntry_90 (fun z_90 ez_90 H locs V => ?_)
        have hw := hw.2 z_90 ez_90
        have V : VW g A s.heap H locs (gX12 g a_this a_this_z a_this_saved a_this_text a_this_line a_this_aside a_this_read a_this_fewest thrown z_90 saves saved length text many line aside isWord entries rdA fewest h) := V
        refine lv_iinc (v := v4 + 1) (lv' := [(4, .int (v4 + 1)), (0, .ref a_this), (1, .int p1), (2, .int p2), (3, .int v3)]) hx hb dX12_renameEntry_91 hl (k := 4) rfl rfl (by decide) rfl (fun ls hl => ?_)
        refine lv_goto (tgt := 60) hx hb dX12_renameEntry_94 (by decide) ?_
        exact ih v3 (v4 + 1) thrown z_90 saves saved many line V (lv_sub hl [1, 2, 3, 4, 0] rfl) hw
  have B56 :  ∀ {H : Heap} {locs : List Loc} {ls : Array Slot} (s0 : Int32) (thrown : Int32) (z : Nat → Int32) (saves : Int32) (saved : Nat → Int32) (many : Int32) (line : Nat → Int32) (V : VW g A s.heap H locs (gX12 g a_this a_this_z a_this_saved a_this_text a_this_line a_this_aside a_this_read a_this_fewest thrown z saves saved length text many line aside isWord entries rdA fewest h)) (hl : lv_has ls 5 [(0, .ref a_this), (1, .int p1), (2, .int p2)]) (hw : wX12_renameEntry_56 p1 p2 P s0 thrown z saves saved many line), W p l e (kR 4 83 0 0) s m ([.ref a_this, .int p1, .int p2] : List Value).toArray below meth c H locs 0 0 Q (F0 m 56 ls [.int s0]) := by
    intro  H locs ls s0 thrown z saves saved many line V hl hw
    refine lv_istore_n (lv' := [(3, .int s0), (0, .ref a_this), (1, .int p1), (2, .int p2)]) hx hb dX12_renameEntry_56 rfl hl (by decide) rfl (fun ls hl => ?_)
    refine lv_iconst (v := 5) hx hb dX12_renameEntry_57 (by decide) ?_
    refine lv_istore (lv' := [(4, .int 5), (3, .int s0), (0, .ref a_this), (1, .int p1), (2, .int p2)]) hx hb dX12_renameEntry_58 hl (by decide) rfl (fun ls hl => ?_)
    obtain ⟨n_60, hw⟩ := hw
    exact B60  n_60 s0 5 thrown z saves saved many line V (lv_sub hl [2, 3, 4, 1, 0] rfl) hw
  have B22 :  ∀ {H : Heap} {locs : List Loc} {ls : Array Slot} (s1 : Int32) (thrown : Int32) (z : Nat → Int32) (saves : Int32) (saved : Nat → Int32) (many : Int32) (line : Nat → Int32) (V : VW g A s.heap H locs (gX12 g a_this a_this_z a_this_saved a_this_text a_this_line a_this_aside a_this_read a_this_fewest thrown z saves saved length text many line aside isWord entries rdA fewest h)) (hl : lv_has ls 5 [(0, .ref a_this), (1, .int p1), (2, .int p2)]) (hw : wX12_renameEntry_22 p1 p2 P s1 thrown z saves saved many line), W p l e (kR 4 83 0 0) s m ([.ref a_this, .int p1, .int p2] : List Value).toArray below meth c H locs 0 0 Q (F0 m 22 ls [.int s1, .ref a_this]) := by
    intro  H locs ls s1 thrown z saves saved many line V hl hw
    refine kput F V 8 0 0 tyX12_ok nmX12 rfl rfl iX12_renameEntry_X12 fX12_renameEntry_31 (by decide) rfl rfl rfl rfl (Nat.le_of_ble_eq_true rfl) dX12_renameEntry_22 (fun H locs V => ?_)
    have V : VW g A s.heap H locs (gX12 g a_this a_this_z a_this_saved a_this_text a_this_line a_this_aside a_this_read a_this_fewest s1 z saves saved length text many line aside isWord entries rdA fewest h) := V
    refine lv_aload_n hx hb dX12_renameEntry_25 rfl (lv_at hl 0 rfl) ?_
    refine kget F V 8 0 0 rfl rfl iX12_renameEntry_X12 fX12_renameEntry_31 (by decide) rfl rfl dX12_renameEntry_26 ?_
    refine lv_if_le (tgt := 34) hx hb dX12_renameEntry_29 (by decide) (fun c_29 => ?_) (fun c_29 => ?_)
    · have hw := hw.1 c_29
      refine lv_aload_n hx hb dX12_renameEntry_34 rfl (lv_at hl 0 rfl) ?_
      refine kVv2 (rest := []) F hl V [0, 1, 2, 3, 4, 5, 6, 7] [] [0, 1, 2, 3, 4, 5, 6, 7] (fun saves_35 saved_35 => (gX12 g a_this a_this_z a_this_saved a_this_text a_this_line a_this_aside a_this_read a_this_fewest s1 z saves_35 saved_35 length text many line aside isWord entries rdA fewest h)) a_this 8 0 rfl rfl (kX12_save l g a_this a_this_z a_this_saved a_this_text a_this_line a_this_aside a_this_read a_this_fewest s1 z saves saved length text many line aside isWord entries rdA fewest h _ hw) gX12_renameEntry_X12_save rfl 0 rfl hdX12_save rfl rfl (fun _ _ => rfl) rfl rfl rfl (by decide) ⟨Nat.le_of_ble_eq_true rfl, Nat.le_of_ble_eq_true rfl⟩ ⟨Nat.le_of_ble_eq_true rfl, Nat.le_of_ble_eq_true rfl⟩ (Nat.le_of_ble_eq_true rfl) rfl dX12_renameEntry_35 (fun saves_35 saved_35 H locs hw V => ?_)
      refine lv_aload_n hx hb dX12_renameEntry_38 rfl (lv_at hl 0 rfl) ?_
      refine lv_iload_n hx hb dX12_renameEntry_39 rfl (lv_at hl 1 rfl) ?_
      refine lv_iload_n hx hb dX12_renameEntry_40 rfl (lv_at hl 2 rfl) ?_
      refine kVi0 (rest := []) F hl V [0, 1, 2, 3, 4, 5, 6, 7] [] [0, 1, 2, 3, 4, 5, 6, 7] (gX12 g a_this a_this_z a_this_saved a_this_text a_this_line a_this_aside a_this_read a_this_fewest s1 z saves_35 saved_35 length text many line aside isWord entries rdA fewest h) a_this 8 0 rfl rfl (kX12_isSameWord l g a_this a_this_z a_this_saved a_this_text a_this_line a_this_aside a_this_read a_this_fewest s1 z saves_35 saved_35 length text many line aside isWord entries rdA fewest h p1 p2 _ hw) gX12_renameEntry_X12_isSameWord rfl 2 rfl hdX12_isSameWord rfl rfl (fun _ => rfl) rfl rfl rfl (by decide) ⟨Nat.le_of_ble_eq_true rfl, Nat.le_of_ble_eq_true rfl⟩ ⟨Nat.le_of_ble_eq_true rfl, Nat.le_of_ble_eq_true rfl⟩ (Nat.le_of_ble_eq_true rfl) rfl dX12_renameEntry_41 (fun r_41 H locs hw V => ?_)
      refine lv_if_eq (tgt := 51) hx hb dX12_renameEntry_44 (by decide) (fun c_44 => ?_) (fun c_44 => ?_)
      · have hw := hw.1 c_44
        refine lv_aload_n hx hb dX12_renameEntry_51 rfl (lv_at hl 0 rfl) ?_
        refine lv_iload_n hx hb dX12_renameEntry_52 rfl (lv_at hl 1 rfl) ?_
        refine kVi0 (rest := []) F hl V [0, 1, 2, 3, 4, 5, 6, 7] [] [0, 1, 2, 3, 4, 5, 6, 7] (gX12 g a_this a_this_z a_this_saved a_this_text a_this_line a_this_aside a_this_read a_this_fewest s1 z saves_35 saved_35 length text many line aside isWord entries rdA fewest h) a_this 8 0 rfl rfl (kX12_madeBy l g a_this a_this_z a_this_saved a_this_text a_this_line a_this_aside a_this_read a_this_fewest s1 z saves_35 saved_35 length text many line aside isWord entries rdA fewest h p1 _ hw) gX12_renameEntry_X12_madeBy rfl 1 rfl hdX12_madeBy rfl rfl (fun _ => rfl) rfl rfl rfl (by decide) ⟨Nat.le_of_ble_eq_true rfl, Nat.le_of_ble_eq_true rfl⟩ ⟨Nat.le_of_ble_eq_true rfl, Nat.le_of_ble_eq_true rfl⟩ (Nat.le_of_ble_eq_true rfl) rfl dX12_renameEntry_53 (fun r_53 H locs hw V => ?_)
        exact B56  r_53 s1 z saves_35 saved_35 many line V hl hw
      · have hw := hw.2 c_44
        refine lv_iconst (v := 0) hx hb dX12_renameEntry_47 (by decide) ?_
        refine lv_goto (tgt := 56) hx hb dX12_renameEntry_48 (by decide) ?_
        exact B56  0 s1 z saves_35 saved_35 many line V hl hw
    · have hw := hw.2 c_29
      refine lv_iconst (v := 0) hx hb dX12_renameEntry_32 (by decide) ?_
      exact ret _ _ _ _ _ _ _ _ _ _ _ rfl dX12_renameEntry_33 V hw
  have B21 :  ∀ {H : Heap} {locs : List Loc} {ls : Array Slot} (thrown : Int32) (z : Nat → Int32) (saves : Int32) (saved : Nat → Int32) (many : Int32) (line : Nat → Int32) (V : VW g A s.heap H locs (gX12 g a_this a_this_z a_this_saved a_this_text a_this_line a_this_aside a_this_read a_this_fewest thrown z saves saved length text many line aside isWord entries rdA fewest h)) (hl : lv_has ls 5 [(0, .ref a_this), (1, .int p1), (2, .int p2)]) (hw : wX12_renameEntry_21 p1 p2 P thrown z saves saved many line), W p l e (kR 4 83 0 0) s m ([.ref a_this, .int p1, .int p2] : List Value).toArray below meth c H locs 0 0 Q (F0 m 21 ls [.ref a_this]) := by
    intro  H locs ls thrown z saves saved many line V hl hw
    refine lv_iconst (v := 1) hx hb dX12_renameEntry_21 (by decide) ?_
    exact B22  1 thrown z saves saved many line V hl hw
  refine lv_aload_n hx hb dX12_renameEntry_0 rfl (lv_at hl 0 rfl) ?_
  refine lv_aload_n hx hb dX12_renameEntry_1 rfl (lv_at hl 0 rfl) ?_
  refine lv_iload_n hx hb dX12_renameEntry_2 rfl (lv_at hl 1 rfl) ?_
  refine kVi0 (rest := [.ref a_this]) F hl V [0, 1, 2, 3, 4, 5, 6, 7] [] [0, 1, 2, 3, 4, 5, 6, 7] (gX12 g a_this a_this_z a_this_saved a_this_text a_this_line a_this_aside a_this_read a_this_fewest thrown z saves saved length text many line aside isWord entries rdA fewest h) a_this 8 0 rfl rfl (kX12_isEntry l g a_this a_this_z a_this_saved a_this_text a_this_line a_this_aside a_this_read a_this_fewest thrown z saves saved length text many line aside isWord entries rdA fewest h p1 _ hw) gX12_renameEntry_X12_isEntry rfl 1 rfl hdX12_isEntry rfl rfl (fun _ => rfl) rfl rfl rfl (by decide) ⟨Nat.le_of_ble_eq_true rfl, Nat.le_of_ble_eq_true rfl⟩ ⟨Nat.le_of_ble_eq_true rfl, Nat.le_of_ble_eq_true rfl⟩ (Nat.le_of_ble_eq_true rfl) rfl dX12_renameEntry_3 (fun r_3 H locs hw V => ?_)
  refine lv_if_eq (tgt := 21) hx hb dX12_renameEntry_6 (by decide) (fun c_6 => ?_) (fun c_6 => ?_)
  · have hw := hw.1 c_6
    exact B21  thrown z saves saved many line V hl hw
  · have hw := hw.2 c_6
    refine lv_aload_n hx hb dX12_renameEntry_9 rfl (lv_at hl 0 rfl) ?_
    refine lv_iload_n hx hb dX12_renameEntry_10 rfl (lv_at hl 2 rfl) ?_
    refine kVi0 (rest := [.ref a_this]) F hl V [0, 1, 2, 3, 4, 5, 6, 7] [] [0, 1, 2, 3, 4, 5, 6, 7] (gX12 g a_this a_this_z a_this_saved a_this_text a_this_line a_this_aside a_this_read a_this_fewest thrown z saves saved length text many line aside isWord entries rdA fewest h) a_this 8 0 rfl rfl (kX12_isEntry l g a_this a_this_z a_this_saved a_this_text a_this_line a_this_aside a_this_read a_this_fewest thrown z saves saved length text many line aside isWord entries rdA fewest h p2 _ hw) gX12_renameEntry_X12_isEntry rfl 1 rfl hdX12_isEntry rfl rfl (fun _ => rfl) rfl rfl rfl (by decide) ⟨Nat.le_of_ble_eq_true rfl, Nat.le_of_ble_eq_true rfl⟩ ⟨Nat.le_of_ble_eq_true rfl, Nat.le_of_ble_eq_true rfl⟩ (Nat.le_of_ble_eq_true rfl) rfl dX12_renameEntry_11 (fun r_11 H locs hw V => ?_)
    refine lv_if_eq (tgt := 21) hx hb dX12_renameEntry_14 (by decide) (fun c_14 => ?_) (fun c_14 => ?_)
    · have hw := hw.1 c_14
      exact B21  thrown z saves saved many line V hl hw
    · have hw := hw.2 c_14
      refine lv_iconst (v := 0) hx hb dX12_renameEntry_17 (by decide) ?_
      refine lv_goto (tgt := 22) hx hb dX12_renameEntry_18 (by decide) ?_
      exact B22  0 thrown z saves saved many line V hl hw
theorem hdX12_strokesAhead : yX12_strokesAhead.cls = RX12 ∧ yX12_strokesAhead.cls ≠ "java/lang/invoke/MethodHandle" ∧ yX12_strokesAhead.cls ≠ "java/lang/invoke/VarHandle" ∧ (parseMethodDescriptor yX12_strokesAhead.desc).map (fun d => d.parameters.length) = some 1 := by decide +kernel
theorem fX12_strokesAhead_7 : Cond.fieldLink RX12 7 RX12 "z" "[I" ∈ wsX12_strokesAhead := by decide +kernel
theorem iX12_strokesAhead_X12 : ∀ w ∈ u_ws RX12 TX12 14, w ∈ wsX12_strokesAhead := by decide +kernel
def wX12_strokesAhead_4 (z : Nat → Int32) (p1 : Int32) (P : Int32 → Prop) : Nat → Int32 → Int32 → Prop
  | 0, _, _ => False
  | n + 1, v2, v3 => (p1 ≤ v3 → P v2) ∧ (¬ (p1 ≤ v3) → wX12_itemAt v3 (fun r_15 => vp_in r_15 1317 ∧ ∀ v2_20 : Int32, v2_20 = (v2 + (z r_15.toNatClampNeg)) → (wX12_strokesAhead_4 z p1 P n) v2_20 (v3 + 1)))
def wX12_strokesAhead (z : Nat → Int32) (p1 : Int32) (P : Int32 → Prop) : Prop := ∃ n_4, wX12_strokesAhead_4 z p1 P n_4 0 0
set_option maxHeartbeats 4000000 in
set_option maxRecDepth 100000 in
theorem kX12_strokesAhead (l : Launch) (g : kT) (a_this : Nat) (a_this_z : Nat) (a_this_saved : Nat) (a_this_text : Nat) (a_this_line : Nat) (a_this_aside : Nat) (a_this_read : Nat) (a_this_fewest : Nat) (thrown : Int32) (z : Nat → Int32) (saves : Int32) (saved : Nat → Int32) (length : Int32) (text : Nat → Int32) (many : Int32) (line : Nat → Int32) (aside : Nat → Int32) (isWord : Int32) (entries : Int32) (rdA : Nat → Int32) (fewest : Nat → Int32) (h : Int64) (p1 : Int32) (P : Int32 → Prop) (hw : wX12_strokesAhead z p1 P) : Ki0 l g yX12_strokesAhead wsX12_strokesAhead 1 20 0 0 [.ref a_this, .int p1] (gX12 g a_this a_this_z a_this_saved a_this_text a_this_line a_this_aside a_this_read a_this_fewest thrown z saves saved length text many line aside isWord entries rdA fewest h) P (gX12 g a_this a_this_z a_this_saved a_this_text a_this_line a_this_aside a_this_read a_this_fewest thrown z saves saved length text many line aside isWord entries rdA fewest h) := by
  refine Ki0.mk (cc := cX12_strokesAhead) (nL := 4) (ty := .int) (by decide +kernel) rfl (Nat.le_of_ble_eq_true rfl) ?_
  intro p e s m below meth c A Q ls F hl V ret
  have hx := F.x
  have hb := F.b
  have hl : lv_has ls 4 [(0, .ref a_this), (1, .int p1)] := hl
  have B4 :  ∀ (n : Nat), ∀ {H : Heap} {locs : List Loc} {ls : Array Slot} (v2 : Int32) (v3 : Int32) (V : VW g A s.heap H locs (gX12 g a_this a_this_z a_this_saved a_this_text a_this_line a_this_aside a_this_read a_this_fewest thrown z saves saved length text many line aside isWord entries rdA fewest h)) (hl : lv_has ls 4 [(0, .ref a_this), (1, .int p1), (2, .int v2), (3, .int v3)]) (hw : wX12_strokesAhead_4 z p1 P n v2 v3), W p l e (kR 1 20 0 0) s m ([.ref a_this, .int p1] : List Value).toArray below meth c H locs 0 0 Q (F0 m 4 ls []) := by
    intro n
    induction n with
    | zero => intro _ _ _ _ _ V hl hw; exact hw.elim
    | succ n ih =>
      intro H locs ls v2 v3 V hl hw
      refine lv_iload_n hx hb dX12_strokesAhead_4 rfl (lv_at hl 3 rfl) ?_
      refine lv_iload_n hx hb dX12_strokesAhead_5 rfl (lv_at hl 1 rfl) ?_
      refine lv_icmp_ge (tgt := 27) hx hb dX12_strokesAhead_6 (by decide) (fun c_6 => ?_) (fun c_6 => ?_)
      · have hw := hw.1 c_6
        refine lv_iload_n hx hb dX12_strokesAhead_27 rfl (lv_at hl 2 rfl) ?_
        exact ret _ _ _ _ _ rfl dX12_strokesAhead_28 V hw
      · have hw := hw.2 c_6
        refine lv_iload_n hx hb dX12_strokesAhead_9 rfl (lv_at hl 2 rfl) ?_
        refine lv_aload_n hx hb dX12_strokesAhead_10 rfl (lv_at hl 0 rfl) ?_
        refine kget F V 8 1 0 rfl rfl iX12_strokesAhead_X12 fX12_strokesAhead_7 (by decide) rfl rfl dX12_strokesAhead_11 ?_
        refine lv_iload_n hx hb dX12_strokesAhead_14 rfl (lv_at hl 3 rfl) ?_
        refine kSi0n (rest := [.ref a_this_z, .int v2]) F hl V (kX12_itemAt l g v3 _ hw) gX12_strokesAhead_X12_itemAt rfl 1 rfl hdX12_itemAt ⟨Nat.le_of_ble_eq_true rfl, Nat.le_of_ble_eq_true rfl⟩ ⟨Nat.le_of_ble_eq_true rfl, Nat.le_of_ble_eq_true rfl⟩ (Nat.le_of_ble_eq_true rfl) rfl dX12_strokesAhead_15 (fun r_15 H locs hw V => ?_)
        refine kiald F V 1 rfl hw.1 dX12_strokesAhead_18 ?_
        have hw := hw.2
        refine lv_iadd hx hb dX12_strokesAhead_19 ?_
        refine lv_topi (fun v2_20 ev2_20 => ?_)
        have hw := hw v2_20 ev2_20
        refine lv_istore_n (lv' := [(2, .int v2_20), (0, .ref a_this), (1, .int p1), (3, .int v3)]) hx hb dX12_strokesAhead_20 rfl hl (by decide) rfl (fun ls hl => ?_)
        refine lv_iinc (v := v3 + 1) (lv' := [(3, .int (v3 + 1)), (2, .int v2_20), (0, .ref a_this), (1, .int p1)]) hx hb dX12_strokesAhead_21 hl (k := 3) rfl rfl (by decide) rfl (fun ls hl => ?_)
        refine lv_goto (tgt := 4) hx hb dX12_strokesAhead_24 (by decide) ?_
        exact ih v2_20 (v3 + 1) V (lv_sub hl [2, 3, 1, 0] rfl) hw
  refine lv_iconst (v := 0) hx hb dX12_strokesAhead_0 (by decide) ?_
  refine lv_istore_n (lv' := [(2, .int 0), (0, .ref a_this), (1, .int p1)]) hx hb dX12_strokesAhead_1 rfl hl (by decide) rfl (fun ls hl => ?_)
  refine lv_iconst (v := 0) hx hb dX12_strokesAhead_2 (by decide) ?_
  refine lv_istore_n (lv' := [(3, .int 0), (2, .int 0), (0, .ref a_this), (1, .int p1)]) hx hb dX12_strokesAhead_3 rfl hl (by decide) rfl (fun ls hl => ?_)
  obtain ⟨n_4, hw⟩ := hw
  exact B4  n_4 0 0 V (lv_sub hl [2, 3, 1, 0] rfl) hw
theorem hdX12_isOutlineThere : yX12_isOutlineThere.cls = RX12 ∧ yX12_isOutlineThere.cls ≠ "java/lang/invoke/MethodHandle" ∧ yX12_isOutlineThere.cls ≠ "java/lang/invoke/VarHandle" ∧ (parseMethodDescriptor yX12_isOutlineThere.desc).map (fun d => d.parameters.length) = some 0 := by decide +kernel
theorem fX12_isOutlineThere_7 : Cond.fieldLink RX12 7 RX12 "z" "[I" ∈ wsX12_isOutlineThere := by decide +kernel
theorem iX12_isOutlineThere_X12 : ∀ w ∈ u_ws RX12 TX12 14, w ∈ wsX12_isOutlineThere := by decide +kernel
def wX12_isOutlineThere_56 (z : Nat → Int32) (K11 : Int32 → Int32 → Int32 → Prop) (P : Int32 → Prop) (v2 : Int32) (v3 : Int32) (s0 : Int32) : Prop := K11 s0 v2 (v3 + 1)
def wX12_isOutlineThere_55 (z : Nat → Int32) (K11 : Int32 → Int32 → Int32 → Prop) (P : Int32 → Prop) (v2 : Int32) (v3 : Int32) : Prop := wX12_isOutlineThere_56 z K11 P v2 v3 0
def wX12_isOutlineThere_51 (z : Nat → Int32) (K11 : Int32 → Int32 → Int32 → Prop) (P : Int32 → Prop) (v2 : Int32) (v3 : Int32) : Prop := wX12_isOutlineThere_56 z K11 P v2 v3 1
def wX12_isOutlineThere_11 (z : Nat → Int32) (P : Int32 → Prop) : Nat → Int32 → Int32 → Int32 → Prop
  | 0, _, _, _ => False
  | n + 1, v1, v2, v3 => (v2 ≤ v3 → (v1 = 0 ∨ v1 = 1) ∧ P v1) ∧ (¬ (v2 ≤ v3) → (¬ v1 = 0 → wX12_isOutlineThere_51 z (wX12_isOutlineThere_11 z P n) P v2 v3) ∧ (v1 = 0 → wX12_entryAt v3 (fun r_25 => vp_in r_25 1317 ∧ wX12_entryAt v2 (fun r_34 => vp_in r_34 1317 ∧ (¬ (z r_25.toNatClampNeg) = (z r_34.toNatClampNeg) → wX12_isOutlineThere_55 z (wX12_isOutlineThere_11 z P n) P v2 v3) ∧ ((z r_25.toNatClampNeg) = (z r_34.toNatClampNeg) → wX12_isIn z v3 0 v2 (fun r_45 => (r_45 = 0 → wX12_isOutlineThere_55 z (wX12_isOutlineThere_11 z P n) P v2 v3) ∧ (¬ (r_45 = 0) → wX12_isOutlineThere_51 z (wX12_isOutlineThere_11 z P n) P v2 v3)))))))
def wX12_isOutlineThere (z : Nat → Int32) (P : Int32 → Prop) : Prop := vp_in 0 1317 ∧ ∀ v2_8 : Int32, v2_8 = (z (0 : Int32).toNatClampNeg) → ∃ n_11, wX12_isOutlineThere_11 z P n_11 0 v2_8 0
set_option maxHeartbeats 4000000 in
set_option maxRecDepth 100000 in
theorem kX12_isOutlineThere (l : Launch) (g : kT) (a_this : Nat) (a_this_z : Nat) (a_this_saved : Nat) (a_this_text : Nat) (a_this_line : Nat) (a_this_aside : Nat) (a_this_read : Nat) (a_this_fewest : Nat) (thrown : Int32) (z : Nat → Int32) (saves : Int32) (saved : Nat → Int32) (length : Int32) (text : Nat → Int32) (many : Int32) (line : Nat → Int32) (aside : Nat → Int32) (isWord : Int32) (entries : Int32) (rdA : Nat → Int32) (fewest : Nat → Int32) (h : Int64) (P : Int32 → Prop) (hw : wX12_isOutlineThere z P) : Ki0 l g yX12_isOutlineThere wsX12_isOutlineThere 2 45 0 0 [.ref a_this] (gX12 g a_this a_this_z a_this_saved a_this_text a_this_line a_this_aside a_this_read a_this_fewest thrown z saves saved length text many line aside isWord entries rdA fewest h) P (gX12 g a_this a_this_z a_this_saved a_this_text a_this_line a_this_aside a_this_read a_this_fewest thrown z saves saved length text many line aside isWord entries rdA fewest h) := by
  refine Ki0.mk (cc := cX12_isOutlineThere) (nL := 4) (ty := .boolean) (by decide +kernel) rfl (Nat.le_of_ble_eq_true rfl) ?_
  intro p e s m below meth c A Q ls F hl V ret
  have hx := F.x
  have hb := F.b
  have hl : lv_has ls 4 [(0, .ref a_this)] := hl
  have B56 : ∀ (K11 : Int32 → Int32 → Int32 → Prop) (k11 : ∀ {H : Heap} {locs : List Loc} {ls : Array Slot} (v1 : Int32) (v2 : Int32) (v3 : Int32), VW g A s.heap H locs (gX12 g a_this a_this_z a_this_saved a_this_text a_this_line a_this_aside a_this_read a_this_fewest thrown z saves saved length text many line aside isWord entries rdA fewest h) → lv_has ls 4 [(0, .ref a_this), (1, .int v1), (2, .int v2), (3, .int v3)] → K11 v1 v2 v3 → W p l e (kR 2 45 0 0) s m ([.ref a_this] : List Value).toArray below meth c H locs 0 0 Q (F0 m 11 ls [])), ∀ {H : Heap} {locs : List Loc} {ls : Array Slot} (v2 : Int32) (v3 : Int32) (s0 : Int32) (V : VW g A s.heap H locs (gX12 g a_this a_this_z a_this_saved a_this_text a_this_line a_this_aside a_this_read a_this_fewest thrown z saves saved length text many line aside isWord entries rdA fewest h)) (hl : lv_has ls 4 [(0, .ref a_this), (2, .int v2), (3, .int v3)]) (hw : wX12_isOutlineThere_56 z K11 P v2 v3 s0), W p l e (kR 2 45 0 0) s m ([.ref a_this] : List Value).toArray below meth c H locs 0 0 Q (F0 m 56 ls [.int s0]) := by
    intro K11 k11 H locs ls v2 v3 s0 V hl hw
    refine lv_istore_n (lv' := [(1, .int s0), (0, .ref a_this), (2, .int v2), (3, .int v3)]) hx hb dX12_isOutlineThere_56 rfl hl (by decide) rfl (fun ls hl => ?_)
    refine lv_iinc (v := v3 + 1) (lv' := [(3, .int (v3 + 1)), (1, .int s0), (0, .ref a_this), (2, .int v2)]) hx hb dX12_isOutlineThere_57 hl (k := 3) rfl rfl (by decide) rfl (fun ls hl => ?_)
    refine lv_goto (tgt := 11) hx hb dX12_isOutlineThere_60 (by decide) ?_
    exact k11 s0 v2 (v3 + 1) V (lv_sub hl [2, 1, 3, 0] rfl) hw
  have B55 : ∀ (K11 : Int32 → Int32 → Int32 → Prop) (k11 : ∀ {H : Heap} {locs : List Loc} {ls : Array Slot} (v1 : Int32) (v2 : Int32) (v3 : Int32), VW g A s.heap H locs (gX12 g a_this a_this_z a_this_saved a_this_text a_this_line a_this_aside a_this_read a_this_fewest thrown z saves saved length text many line aside isWord entries rdA fewest h) → lv_has ls 4 [(0, .ref a_this), (1, .int v1), (2, .int v2), (3, .int v3)] → K11 v1 v2 v3 → W p l e (kR 2 45 0 0) s m ([.ref a_this] : List Value).toArray below meth c H locs 0 0 Q (F0 m 11 ls [])), ∀ {H : Heap} {locs : List Loc} {ls : Array Slot} (v2 : Int32) (v3 : Int32) (V : VW g A s.heap H locs (gX12 g a_this a_this_z a_this_saved a_this_text a_this_line a_this_aside a_this_read a_this_fewest thrown z saves saved length text many line aside isWord entries rdA fewest h)) (hl : lv_has ls 4 [(0, .ref a_this), (2, .int v2), (3, .int v3)]) (hw : wX12_isOutlineThere_55 z K11 P v2 v3), W p l e (kR 2 45 0 0) s m ([.ref a_this] : List Value).toArray below meth c H locs 0 0 Q (F0 m 55 ls []) := by
    intro K11 k11 H locs ls v2 v3 V hl hw
    refine lv_iconst (v := 0) hx hb dX12_isOutlineThere_55 (by decide) ?_
    exact B56 K11 k11 v2 v3 0 V hl hw
  have B51 : ∀ (K11 : Int32 → Int32 → Int32 → Prop) (k11 : ∀ {H : Heap} {locs : List Loc} {ls : Array Slot} (v1 : Int32) (v2 : Int32) (v3 : Int32), VW g A s.heap H locs (gX12 g a_this a_this_z a_this_saved a_this_text a_this_line a_this_aside a_this_read a_this_fewest thrown z saves saved length text many line aside isWord entries rdA fewest h) → lv_has ls 4 [(0, .ref a_this), (1, .int v1), (2, .int v2), (3, .int v3)] → K11 v1 v2 v3 → W p l e (kR 2 45 0 0) s m ([.ref a_this] : List Value).toArray below meth c H locs 0 0 Q (F0 m 11 ls [])), ∀ {H : Heap} {locs : List Loc} {ls : Array Slot} (v2 : Int32) (v3 : Int32) (V : VW g A s.heap H locs (gX12 g a_this a_this_z a_this_saved a_this_text a_this_line a_this_aside a_this_read a_this_fewest thrown z saves saved length text many line aside isWord entries rdA fewest h)) (hl : lv_has ls 4 [(0, .ref a_this), (2, .int v2), (3, .int v3)]) (hw : wX12_isOutlineThere_51 z K11 P v2 v3), W p l e (kR 2 45 0 0) s m ([.ref a_this] : List Value).toArray below meth c H locs 0 0 Q (F0 m 51 ls []) := by
    intro K11 k11 H locs ls v2 v3 V hl hw
    refine lv_iconst (v := 1) hx hb dX12_isOutlineThere_51 (by decide) ?_
    refine lv_goto (tgt := 56) hx hb dX12_isOutlineThere_52 (by decide) ?_
    exact B56 K11 k11 v2 v3 1 V hl hw
  have B11 :  ∀ (n : Nat), ∀ {H : Heap} {locs : List Loc} {ls : Array Slot} (v1 : Int32) (v2 : Int32) (v3 : Int32) (V : VW g A s.heap H locs (gX12 g a_this a_this_z a_this_saved a_this_text a_this_line a_this_aside a_this_read a_this_fewest thrown z saves saved length text many line aside isWord entries rdA fewest h)) (hl : lv_has ls 4 [(0, .ref a_this), (1, .int v1), (2, .int v2), (3, .int v3)]) (hw : wX12_isOutlineThere_11 z P n v1 v2 v3), W p l e (kR 2 45 0 0) s m ([.ref a_this] : List Value).toArray below meth c H locs 0 0 Q (F0 m 11 ls []) := by
    intro n
    induction n with
    | zero => intro _ _ _ _ _ _ V hl hw; exact hw.elim
    | succ n ih =>
      intro H locs ls v1 v2 v3 V hl hw
      refine lv_iload_n hx hb dX12_isOutlineThere_11 rfl (lv_at hl 3 rfl) ?_
      refine lv_iload_n hx hb dX12_isOutlineThere_12 rfl (lv_at hl 2 rfl) ?_
      refine lv_icmp_ge (tgt := 63) hx hb dX12_isOutlineThere_13 (by decide) (fun c_13 => ?_) (fun c_13 => ?_)
      · have hw := hw.1 c_13
        refine lv_iload_n hx hb dX12_isOutlineThere_63 rfl (lv_at hl 1 rfl) ?_
        exact ret _ _ _ _ _ (k01n hw.1) dX12_isOutlineThere_64 V hw.2
      · have hw := hw.2 c_13
        refine lv_iload_n hx hb dX12_isOutlineThere_16 rfl (lv_at hl 1 rfl) ?_
        refine lv_if_ne (tgt := 51) hx hb dX12_isOutlineThere_17 (by decide) (fun c_17 => ?_) (fun c_17 => ?_)
        · have hw := hw.1 c_17
          exact B51 (wX12_isOutlineThere_11 z P n) ih v2 v3 V (lv_sub hl [0, 2, 3] rfl) hw
        · have hw := hw.2 c_17
          refine lv_aload_n hx hb dX12_isOutlineThere_20 rfl (lv_at hl 0 rfl) ?_
          refine kget F V 8 1 0 rfl rfl iX12_isOutlineThere_X12 fX12_isOutlineThere_7 (by decide) rfl rfl dX12_isOutlineThere_21 ?_
          refine lv_iload_n hx hb dX12_isOutlineThere_24 rfl (lv_at hl 3 rfl) ?_
          refine kSi0n (rest := [.ref a_this_z]) F hl V (kX12_entryAt l g v3 _ hw) gX12_isOutlineThere_X12_entryAt rfl 1 rfl hdX12_entryAt ⟨Nat.le_of_ble_eq_true rfl, Nat.le_of_ble_eq_true rfl⟩ ⟨Nat.le_of_ble_eq_true rfl, Nat.le_of_ble_eq_true rfl⟩ (Nat.le_of_ble_eq_true rfl) rfl dX12_isOutlineThere_25 (fun r_25 H locs hw V => ?_)
          refine kiald F V 1 rfl hw.1 dX12_isOutlineThere_28 ?_
          have hw := hw.2
          refine lv_aload_n hx hb dX12_isOutlineThere_29 rfl (lv_at hl 0 rfl) ?_
          refine kget F V 8 1 0 rfl rfl iX12_isOutlineThere_X12 fX12_isOutlineThere_7 (by decide) rfl rfl dX12_isOutlineThere_30 ?_
          refine lv_iload_n hx hb dX12_isOutlineThere_33 rfl (lv_at hl 2 rfl) ?_
          refine kSi0n (rest := [.ref a_this_z, .int (z r_25.toNatClampNeg)]) F hl V (kX12_entryAt l g v2 _ hw) gX12_isOutlineThere_X12_entryAt rfl 1 rfl hdX12_entryAt ⟨Nat.le_of_ble_eq_true rfl, Nat.le_of_ble_eq_true rfl⟩ ⟨Nat.le_of_ble_eq_true rfl, Nat.le_of_ble_eq_true rfl⟩ (Nat.le_of_ble_eq_true rfl) rfl dX12_isOutlineThere_34 (fun r_34 H locs hw V => ?_)
          refine kiald F V 1 rfl hw.1 dX12_isOutlineThere_37 ?_
          have hw := hw.2
          refine lv_icmp_ne (tgt := 55) hx hb dX12_isOutlineThere_38 (by decide) (fun c_38 => ?_) (fun c_38 => ?_)
          · have hw := hw.1 c_38
            exact B55 (wX12_isOutlineThere_11 z P n) ih v2 v3 V (lv_sub hl [0, 2, 3] rfl) hw
          · have hw := hw.2 c_38
            refine lv_aload_n hx hb dX12_isOutlineThere_41 rfl (lv_at hl 0 rfl) ?_
            refine lv_iload_n hx hb dX12_isOutlineThere_42 rfl (lv_at hl 3 rfl) ?_
            refine lv_iconst (v := 0) hx hb dX12_isOutlineThere_43 (by decide) ?_
            refine lv_iload_n hx hb dX12_isOutlineThere_44 rfl (lv_at hl 2 rfl) ?_
            refine kVi0 (rest := []) F hl V [0, 1, 2, 3, 4, 5, 6, 7] [] [0, 1, 2, 3, 4, 5, 6, 7] (gX12 g a_this a_this_z a_this_saved a_this_text a_this_line a_this_aside a_this_read a_this_fewest thrown z saves saved length text many line aside isWord entries rdA fewest h) a_this 8 0 rfl rfl (kX12_isIn l g a_this a_this_z a_this_saved a_this_text a_this_line a_this_aside a_this_read a_this_fewest thrown z saves saved length text many line aside isWord entries rdA fewest h v3 0 v2 _ hw) gX12_isOutlineThere_X12_isIn rfl 3 rfl hdX12_isIn rfl rfl (fun _ => rfl) rfl rfl rfl (by decide) ⟨Nat.le_of_ble_eq_true rfl, Nat.le_of_ble_eq_true rfl⟩ ⟨Nat.le_of_ble_eq_true rfl, Nat.le_of_ble_eq_true rfl⟩ (Nat.le_of_ble_eq_true rfl) rfl dX12_isOutlineThere_45 (fun r_45 H locs hw V => ?_)
            refine lv_if_eq (tgt := 55) hx hb dX12_isOutlineThere_48 (by decide) (fun c_48 => ?_) (fun c_48 => ?_)
            · have hw := hw.1 c_48
              exact B55 (wX12_isOutlineThere_11 z P n) ih v2 v3 V (lv_sub hl [0, 2, 3] rfl) hw
            · have hw := hw.2 c_48
              exact B51 (wX12_isOutlineThere_11 z P n) ih v2 v3 V (lv_sub hl [0, 2, 3] rfl) hw
  refine lv_iconst (v := 0) hx hb dX12_isOutlineThere_0 (by decide) ?_
  refine lv_istore_n (lv' := [(1, .int 0), (0, .ref a_this)]) hx hb dX12_isOutlineThere_1 rfl hl (by decide) rfl (fun ls hl => ?_)
  refine lv_aload_n hx hb dX12_isOutlineThere_2 rfl (lv_at hl 1 rfl) ?_
  refine kget F V 8 1 0 rfl rfl iX12_isOutlineThere_X12 fX12_isOutlineThere_7 (by decide) rfl rfl dX12_isOutlineThere_3 ?_
  refine lv_iconst (v := 0) hx hb dX12_isOutlineThere_6 (by decide) ?_
  refine kiald F V 1 rfl hw.1 dX12_isOutlineThere_7 ?_
  have hw := hw.2
  refine lv_topi (fun v2_8 ev2_8 => ?_)
  have hw := hw v2_8 ev2_8
  refine lv_istore_n (lv' := [(2, .int v2_8), (1, .int 0), (0, .ref a_this)]) hx hb dX12_isOutlineThere_8 rfl hl (by decide) rfl (fun ls hl => ?_)
  refine lv_iconst (v := 0) hx hb dX12_isOutlineThere_9 (by decide) ?_
  refine lv_istore_n (lv' := [(3, .int 0), (2, .int v2_8), (1, .int 0), (0, .ref a_this)]) hx hb dX12_isOutlineThere_10 rfl hl (by decide) rfl (fun ls hl => ?_)
  obtain ⟨n_11, hw⟩ := hw
  exact B11  n_11 0 v2_8 0 V (lv_sub hl [3, 2, 1, 0] rfl) hw
theorem hdX12_layLearned : yX12_layLearned.cls = RX12 ∧ yX12_layLearned.cls ≠ "java/lang/invoke/MethodHandle" ∧ yX12_layLearned.cls ≠ "java/lang/invoke/VarHandle" ∧ (parseMethodDescriptor yX12_layLearned.desc).map (fun d => d.parameters.length) = some 2 := by decide +kernel
theorem fX12_layLearned_7 : Cond.fieldLink RX12 7 RX12 "z" "[I" ∈ wsX12_layLearned := by decide +kernel
theorem iX12_layLearned_X12 : ∀ w ∈ u_ws RX12 TX12 14, w ∈ wsX12_layLearned := by decide +kernel
def wX12_layLearned_207 (p1 : Int32) (p2 : Int32) (K90 : Int32 → Int32 → (Nat → Int32) → Prop) (P : (Nat → Int32) → Prop) (v3 : Int32) (v5 : Int32) (z : Nat → Int32) : Prop := K90 v3 (v5 + 1) z
def wX12_layLearned_188 (p1 : Int32) (p2 : Int32) (K90 : Int32 → Int32 → (Nat → Int32) → Prop) (K99 : Int32 → Int32 → Int32 → (Nat → Int32) → Prop) (P : (Nat → Int32) → Prop) (v3 : Int32) (v5 : Int32) (v6 : Int32) (s1 : Int32) (s2 : Int32) (z : Nat → Int32) : Prop := vp_in s1 1317 ∧ ∀ z_188 : Nat → Int32, z_188 = upd z s1.toNatClampNeg s2 → vp_in (v3 + 5) 1317 ∧ vp_in (v3 + 5) 1317 ∧ ∀ z_200 : Nat → Int32, z_200 = upd z_188 (v3 + 5).toNatClampNeg ((z_188 (v3 + 5).toNatClampNeg) + 1) → K99 v3 v5 (v6 + 1) z_200
def wX12_layLearned_99 (p1 : Int32) (p2 : Int32) (K90 : Int32 → Int32 → (Nat → Int32) → Prop) (P : (Nat → Int32) → Prop) : Nat → Int32 → Int32 → Int32 → (Nat → Int32) → Prop
  | 0, _, _, _, _ => False
  | n + 1, v3, v5, v6, z => wX12_itemAt v5 (fun r_107 => vp_in (r_107 + 2) 1317 ∧ ((z (r_107 + 2).toNatClampNeg) ≤ v6 → wX12_layLearned_207 p1 p2 K90 P v3 v5 z) ∧ (¬ ((z (r_107 + 2).toNatClampNeg) ≤ v6) → vp_in (v3 + 5) 1317 ∧ (8 ≤ (z (v3 + 5).toNatClampNeg) → wX12_layLearned_207 p1 p2 K90 P v3 v5 z) ∧ (¬ (8 ≤ (z (v3 + 5).toNatClampNeg)) → wX12_itemAt v5 (fun r_135 => vp_in ((r_135 + 3) + v6) 1317 ∧ ∀ v7_144 : Int32, v7_144 = (z ((r_135 + 3) + v6).toNatClampNeg) → vp_in (v3 + 5) 1317 ∧ wX12_within v7_144 65 90 (fun r_169 => (r_169 = 0 → wX12_layLearned_188 p1 p2 K90 (wX12_layLearned_99 p1 p2 K90 P n) P v3 v5 v6 ((v3 + 6) + (z (v3 + 5).toNatClampNeg)) v7_144 z) ∧ (¬ (r_169 = 0) → wX12_layLearned_188 p1 p2 K90 (wX12_layLearned_99 p1 p2 K90 P n) P v3 v5 v6 ((v3 + 6) + (z (v3 + 5).toNatClampNeg)) ((v7_144 - 65) + 97) z))))))
def wX12_layLearned_90 (p1 : Int32) (p2 : Int32) (P : (Nat → Int32) → Prop) : Nat → Int32 → Int32 → (Nat → Int32) → Prop
  | 0, _, _, _ => False
  | n + 1, v3, v5, z => (p2 < v5 → P z) ∧ (¬ (p2 < v5) → ∃ n_99, wX12_layLearned_99 p1 p2 (wX12_layLearned_90 p1 p2 P n) P n_99 v3 v5 0 z)
def wX12_layLearned_36 (p1 : Int32) (p2 : Int32) (P : (Nat → Int32) → Prop) : Nat → Int32 → Int32 → Int32 → (Nat → Int32) → Prop
  | 0, _, _, _, _ => False
  | n + 1, v3, v4, v5, z => vp_in v3 1317 ∧ ((z v3.toNatClampNeg) ≤ v5 → vp_in (v3 + 5) 1317 ∧ ∀ z_86 : Nat → Int32, z_86 = upd z (v3 + 5).toNatClampNeg 0 → ∃ n_90, wX12_layLearned_90 p1 p2 P n_90 v3 p1 z_86) ∧ (¬ ((z v3.toNatClampNeg) ≤ v5) → vp_in ((338 + v4) + v5) 1317 ∧ vp_in ((v3 + 1) + v5) 1317 ∧ ∀ z_71 : Nat → Int32, z_71 = upd z ((v3 + 1) + v5).toNatClampNeg (z ((338 + v4) + v5).toNatClampNeg) → (wX12_layLearned_36 p1 p2 P n) v3 v4 (v5 + 1) z_71)
def wX12_layLearned (p1 : Int32) (p2 : Int32) (P : (Nat → Int32) → Prop) (z : Nat → Int32) : Prop := vp_in 0 1317 ∧ wX12_entryAt (z (0 : Int32).toNatClampNeg) (fun r_6 => wX12_strokesAhead z p1 (fun r_12 => wX12_strokesAhead z (p2 + 1) (fun r_26 => vp_in r_6 1317 ∧ ∀ z_32 : Nat → Int32, z_32 = upd z r_6.toNatClampNeg (r_26 - r_12) → ∃ n_36, wX12_layLearned_36 p1 p2 P n_36 r_6 r_12 0 z_32)))
set_option maxHeartbeats 4000000 in
set_option maxRecDepth 100000 in
theorem kX12_layLearned (l : Launch) (g : kT) (a_this : Nat) (a_this_z : Nat) (a_this_saved : Nat) (a_this_text : Nat) (a_this_line : Nat) (a_this_aside : Nat) (a_this_read : Nat) (a_this_fewest : Nat) (thrown : Int32) (z : Nat → Int32) (saves : Int32) (saved : Nat → Int32) (length : Int32) (text : Nat → Int32) (many : Int32) (line : Nat → Int32) (aside : Nat → Int32) (isWord : Int32) (entries : Int32) (rdA : Nat → Int32) (fewest : Nat → Int32) (h : Int64) (p1 : Int32) (p2 : Int32) (P : (Nat → Int32) → Prop) (hw : wX12_layLearned p1 p2 P z) : Kv1 l g yX12_layLearned wsX12_layLearned 2 43 0 0 [.ref a_this, .int p1, .int p2] (gX12 g a_this a_this_z a_this_saved a_this_text a_this_line a_this_aside a_this_read a_this_fewest thrown z saves saved length text many line aside isWord entries rdA fewest h) P (fun z => (gX12 g a_this a_this_z a_this_saved a_this_text a_this_line a_this_aside a_this_read a_this_fewest thrown z saves saved length text many line aside isWord entries rdA fewest h)) := by
  refine Kv1.mk (cc := cX12_layLearned) (nL := 8) (by decide +kernel) rfl (Nat.le_of_ble_eq_true rfl) ?_
  intro p e s m below meth c A Q ls F hl V ret _
  have hx := F.x
  have hb := F.b
  have hl : lv_has ls 8 [(0, .ref a_this), (1, .int p1), (2, .int p2)] := hl
  have B207 : ∀ (K90 : Int32 → Int32 → (Nat → Int32) → Prop) (k90 : ∀ {H : Heap} {locs : List Loc} {ls : Array Slot} (v3 : Int32) (v5 : Int32) (z : Nat → Int32), VW g A s.heap H locs (gX12 g a_this a_this_z a_this_saved a_this_text a_this_line a_this_aside a_this_read a_this_fewest thrown z saves saved length text many line aside isWord entries rdA fewest h) → lv_has ls 8 [(0, .ref a_this), (2, .int p2), (3, .int v3), (5, .int v5)] → K90 v3 v5 z → W p l e (kR 2 43 0 0) s m ([.ref a_this, .int p1, .int p2] : List Value).toArray below meth c H locs 0 0 Q (F0 m 90 ls [])), ∀ {H : Heap} {locs : List Loc} {ls : Array Slot} (v3 : Int32) (v5 : Int32) (z : Nat → Int32) (V : VW g A s.heap H locs (gX12 g a_this a_this_z a_this_saved a_this_text a_this_line a_this_aside a_this_read a_this_fewest thrown z saves saved length text many line aside isWord entries rdA fewest h)) (hl : lv_has ls 8 [(0, .ref a_this), (2, .int p2), (3, .int v3), (5, .int v5)]) (hw : wX12_layLearned_207 p1 p2 K90 P v3 v5 z), W p l e (kR 2 43 0 0) s m ([.ref a_this, .int p1, .int p2] : List Value).toArray below meth c H locs 0 0 Q (F0 m 207 ls []) := by
    intro K90 k90 H locs ls v3 v5 z V hl hw
    refine lv_iinc (v := v5 + 1) (lv' := [(5, .int (v5 + 1)), (0, .ref a_this), (2, .int p2), (3, .int v3)]) hx hb dX12_layLearned_207 hl (k := 3) rfl rfl (by decide) rfl (fun ls hl => ?_)
    refine lv_goto (tgt := 90) hx hb dX12_layLearned_210 (by decide) ?_
    exact k90 v3 (v5 + 1) z V (lv_sub hl [1, 2, 3, 0] rfl) hw
  have B188 : ∀ (K90 : Int32 → Int32 → (Nat → Int32) → Prop) (k90 : ∀ {H : Heap} {locs : List Loc} {ls : Array Slot} (v3 : Int32) (v5 : Int32) (z : Nat → Int32), VW g A s.heap H locs (gX12 g a_this a_this_z a_this_saved a_this_text a_this_line a_this_aside a_this_read a_this_fewest thrown z saves saved length text many line aside isWord entries rdA fewest h) → lv_has ls 8 [(0, .ref a_this), (2, .int p2), (3, .int v3), (5, .int v5)] → K90 v3 v5 z → W p l e (kR 2 43 0 0) s m ([.ref a_this, .int p1, .int p2] : List Value).toArray below meth c H locs 0 0 Q (F0 m 90 ls [])) (K99 : Int32 → Int32 → Int32 → (Nat → Int32) → Prop) (k99 : ∀ {H : Heap} {locs : List Loc} {ls : Array Slot} (v3 : Int32) (v5 : Int32) (v6 : Int32) (z : Nat → Int32), VW g A s.heap H locs (gX12 g a_this a_this_z a_this_saved a_this_text a_this_line a_this_aside a_this_read a_this_fewest thrown z saves saved length text many line aside isWord entries rdA fewest h) → lv_has ls 8 [(0, .ref a_this), (2, .int p2), (3, .int v3), (5, .int v5), (6, .int v6)] → K99 v3 v5 v6 z → W p l e (kR 2 43 0 0) s m ([.ref a_this, .int p1, .int p2] : List Value).toArray below meth c H locs 0 0 Q (F0 m 99 ls [])), ∀ {H : Heap} {locs : List Loc} {ls : Array Slot} (v3 : Int32) (v5 : Int32) (v6 : Int32) (s1 : Int32) (s2 : Int32) (z : Nat → Int32) (V : VW g A s.heap H locs (gX12 g a_this a_this_z a_this_saved a_this_text a_this_line a_this_aside a_this_read a_this_fewest thrown z saves saved length text many line aside isWord entries rdA fewest h)) (hl : lv_has ls 8 [(0, .ref a_this), (2, .int p2), (3, .int v3), (5, .int v5), (6, .int v6)]) (hw : wX12_layLearned_188 p1 p2 K90 K99 P v3 v5 v6 s1 s2 z), W p l e (kR 2 43 0 0) s m ([.ref a_this, .int p1, .int p2] : List Value).toArray below meth c H locs 0 0 Q (F0 m 188 ls [.int s2, .int s1, .ref a_this_z]) := by
    intro K90 k90 K99 k99 H locs ls v3 v5 v6 s1 s2 z V hl hw
    refine kiast F V 1 rfl hw.1 dX12_layLearned_188 (fun z_188 ez_188 H locs V => ?_)
    have hw := hw.2 z_188 ez_188
    have V : VW g A s.heap H locs (gX12 g a_this a_this_z a_this_saved a_this_text a_this_line a_this_aside a_this_read a_this_fewest thrown z_188 saves saved length text many line aside isWord entries rdA fewest h) := V
    refine lv_aload_n hx hb dX12_layLearned_189 rfl (lv_at hl 0 rfl) ?_
    refine kget F V 8 1 0 rfl rfl iX12_layLearned_X12 fX12_layLearned_7 (by decide) rfl rfl dX12_layLearned_190 ?_
    refine lv_iload_n hx hb dX12_layLearned_193 rfl (lv_at hl 2 rfl) ?_
    refine lv_iconst (v := 5) hx hb dX12_layLearned_194 (by decide) ?_
    refine lv_iadd hx hb dX12_layLearned_195 ?_
    refine lv_dup2_11 hx hb dX12_layLearned_196 rfl rfl ?_
    refine kiald F V 1 rfl hw.1 dX12_layLearned_197 ?_
    have hw := hw.2
    refine lv_iconst (v := 1) hx hb dX12_layLearned_198 (by decide) ?_
    refine lv_iadd hx hb dX12_layLearned_199 ?_
    refine kiast F V 1 rfl hw.1 dX12_layLearned_200 (fun z_200 ez_200 H locs V => ?_)
    have hw := hw.2 z_200 ez_200
    have V : VW g A s.heap H locs (gX12 g a_this a_this_z a_this_saved a_this_text a_this_line a_this_aside a_this_read a_this_fewest thrown z_200 saves saved length text many line aside isWord entries rdA fewest h) := V
    refine lv_iinc (v := v6 + 1) (lv' := [(6, .int (v6 + 1)), (0, .ref a_this), (2, .int p2), (3, .int v3), (5, .int v5)]) hx hb dX12_layLearned_201 hl (k := 4) rfl rfl (by decide) rfl (fun ls hl => ?_)
    refine lv_goto (tgt := 99) hx hb dX12_layLearned_204 (by decide) ?_
    exact k99 v3 v5 (v6 + 1) z_200 V (lv_sub hl [1, 2, 3, 4, 0] rfl) hw
  have B99 : ∀ (K90 : Int32 → Int32 → (Nat → Int32) → Prop) (k90 : ∀ {H : Heap} {locs : List Loc} {ls : Array Slot} (v3 : Int32) (v5 : Int32) (z : Nat → Int32), VW g A s.heap H locs (gX12 g a_this a_this_z a_this_saved a_this_text a_this_line a_this_aside a_this_read a_this_fewest thrown z saves saved length text many line aside isWord entries rdA fewest h) → lv_has ls 8 [(0, .ref a_this), (2, .int p2), (3, .int v3), (5, .int v5)] → K90 v3 v5 z → W p l e (kR 2 43 0 0) s m ([.ref a_this, .int p1, .int p2] : List Value).toArray below meth c H locs 0 0 Q (F0 m 90 ls [])), ∀ (n : Nat), ∀ {H : Heap} {locs : List Loc} {ls : Array Slot} (v3 : Int32) (v5 : Int32) (v6 : Int32) (z : Nat → Int32) (V : VW g A s.heap H locs (gX12 g a_this a_this_z a_this_saved a_this_text a_this_line a_this_aside a_this_read a_this_fewest thrown z saves saved length text many line aside isWord entries rdA fewest h)) (hl : lv_has ls 8 [(0, .ref a_this), (2, .int p2), (3, .int v3), (5, .int v5), (6, .int v6)]) (hw : wX12_layLearned_99 p1 p2 K90 P n v3 v5 v6 z), W p l e (kR 2 43 0 0) s m ([.ref a_this, .int p1, .int p2] : List Value).toArray below meth c H locs 0 0 Q (F0 m 99 ls []) := by
    intro K90 k90
    intro n
    induction n with
    | zero => intro _ _ _ _ _ _ _ V hl hw; exact hw.elim
    | succ n ih =>
      intro H locs ls v3 v5 v6 z V hl hw
      refine lv_iload hx hb dX12_layLearned_99 (lv_at hl 4 rfl) ?_
      refine lv_aload_n hx hb dX12_layLearned_101 rfl (lv_at hl 0 rfl) ?_
      refine kget F V 8 1 0 rfl rfl iX12_layLearned_X12 fX12_layLearned_7 (by decide) rfl rfl dX12_layLearned_102 ?_
      refine lv_iload hx hb dX12_layLearned_105 (lv_at hl 3 rfl) ?_
      refine kSi0n (rest := [.ref a_this_z, .int v6]) F hl V (kX12_itemAt l g v5 _ hw) gX12_layLearned_X12_itemAt rfl 1 rfl hdX12_itemAt ⟨Nat.le_of_ble_eq_true rfl, Nat.le_of_ble_eq_true rfl⟩ ⟨Nat.le_of_ble_eq_true rfl, Nat.le_of_ble_eq_true rfl⟩ (Nat.le_of_ble_eq_true rfl) rfl dX12_layLearned_107 (fun r_107 H locs hw V => ?_)
      refine lv_iconst (v := 2) hx hb dX12_layLearned_110 (by decide) ?_
      refine lv_iadd hx hb dX12_layLearned_111 ?_
      refine kiald F V 1 rfl hw.1 dX12_layLearned_112 ?_
      have hw := hw.2
      refine lv_icmp_ge (tgt := 207) hx hb dX12_layLearned_113 (by decide) (fun c_113 => ?_) (fun c_113 => ?_)
      · have hw := hw.1 c_113
        exact B207 K90 k90 v3 v5 z V (lv_sub hl [0, 1, 2, 3] rfl) hw
      · have hw := hw.2 c_113
        refine lv_aload_n hx hb dX12_layLearned_116 rfl (lv_at hl 0 rfl) ?_
        refine kget F V 8 1 0 rfl rfl iX12_layLearned_X12 fX12_layLearned_7 (by decide) rfl rfl dX12_layLearned_117 ?_
        refine lv_iload_n hx hb dX12_layLearned_120 rfl (lv_at hl 2 rfl) ?_
        refine lv_iconst (v := 5) hx hb dX12_layLearned_121 (by decide) ?_
        refine lv_iadd hx hb dX12_layLearned_122 ?_
        refine kiald F V 1 rfl hw.1 dX12_layLearned_123 ?_
        have hw := hw.2
        refine lv_bipush (v := 8) hx hb dX12_layLearned_124 (by decide) ?_
        refine lv_icmp_ge (tgt := 207) hx hb dX12_layLearned_126 (by decide) (fun c_126 => ?_) (fun c_126 => ?_)
        · have hw := hw.1 c_126
          exact B207 K90 k90 v3 v5 z V (lv_sub hl [0, 1, 2, 3] rfl) hw
        · have hw := hw.2 c_126
          refine lv_aload_n hx hb dX12_layLearned_129 rfl (lv_at hl 0 rfl) ?_
          refine kget F V 8 1 0 rfl rfl iX12_layLearned_X12 fX12_layLearned_7 (by decide) rfl rfl dX12_layLearned_130 ?_
          refine lv_iload hx hb dX12_layLearned_133 (lv_at hl 3 rfl) ?_
          refine kSi0n (rest := [.ref a_this_z]) F hl V (kX12_itemAt l g v5 _ hw) gX12_layLearned_X12_itemAt rfl 1 rfl hdX12_itemAt ⟨Nat.le_of_ble_eq_true rfl, Nat.le_of_ble_eq_true rfl⟩ ⟨Nat.le_of_ble_eq_true rfl, Nat.le_of_ble_eq_true rfl⟩ (Nat.le_of_ble_eq_true rfl) rfl dX12_layLearned_135 (fun r_135 H locs hw V => ?_)
          refine lv_iconst (v := 3) hx hb dX12_layLearned_138 (by decide) ?_
          refine lv_iadd hx hb dX12_layLearned_139 ?_
          refine lv_iload hx hb dX12_layLearned_140 (lv_at hl 4 rfl) ?_
          refine lv_iadd hx hb dX12_layLearned_142 ?_
          refine kiald F V 1 rfl hw.1 dX12_layLearned_143 ?_
          have hw := hw.2
          refine lv_topi (fun v7_144 ev7_144 => ?_)
          have hw := hw v7_144 ev7_144
          refine lv_istore (lv' := [(7, .int v7_144), (0, .ref a_this), (2, .int p2), (3, .int v3), (5, .int v5), (6, .int v6)]) hx hb dX12_layLearned_144 hl (by decide) rfl (fun ls hl => ?_)
          refine lv_aload_n hx hb dX12_layLearned_146 rfl (lv_at hl 1 rfl) ?_
          refine kget F V 8 1 0 rfl rfl iX12_layLearned_X12 fX12_layLearned_7 (by decide) rfl rfl dX12_layLearned_147 ?_
          refine lv_iload_n hx hb dX12_layLearned_150 rfl (lv_at hl 3 rfl) ?_
          refine lv_bipush (v := 6) hx hb dX12_layLearned_151 (by decide) ?_
          refine lv_iadd hx hb dX12_layLearned_153 ?_
          refine lv_aload_n hx hb dX12_layLearned_154 rfl (lv_at hl 1 rfl) ?_
          refine kget F V 8 1 0 rfl rfl iX12_layLearned_X12 fX12_layLearned_7 (by decide) rfl rfl dX12_layLearned_155 ?_
          refine lv_iload_n hx hb dX12_layLearned_158 rfl (lv_at hl 3 rfl) ?_
          refine lv_iconst (v := 5) hx hb dX12_layLearned_159 (by decide) ?_
          refine lv_iadd hx hb dX12_layLearned_160 ?_
          refine kiald F V 1 rfl hw.1 dX12_layLearned_161 ?_
          have hw := hw.2
          refine lv_iadd hx hb dX12_layLearned_162 ?_
          refine lv_iload hx hb dX12_layLearned_163 (lv_at hl 0 rfl) ?_
          refine lv_bipush (v := 65) hx hb dX12_layLearned_165 (by decide) ?_
          refine lv_bipush (v := 90) hx hb dX12_layLearned_167 (by decide) ?_
          refine kSi0n (rest := [.int ((v3 + 6) + (z (v3 + 5).toNatClampNeg)), .ref a_this_z]) F hl V (kX12_within l g v7_144 65 90 _ hw) gX12_layLearned_X12_within rfl 3 rfl hdX12_within ⟨Nat.le_of_ble_eq_true rfl, Nat.le_of_ble_eq_true rfl⟩ ⟨Nat.le_of_ble_eq_true rfl, Nat.le_of_ble_eq_true rfl⟩ (Nat.le_of_ble_eq_true rfl) rfl dX12_layLearned_169 (fun r_169 H locs hw V => ?_)
          refine lv_if_eq (tgt := 186) hx hb dX12_layLearned_172 (by decide) (fun c_172 => ?_) (fun c_172 => ?_)
          · have hw := hw.1 c_172
            refine lv_iload hx hb dX12_layLearned_186 (lv_at hl 0 rfl) ?_
            exact B188 K90 k90 (wX12_layLearned_99 p1 p2 K90 P n) ih v3 v5 v6 ((v3 + 6) + (z (v3 + 5).toNatClampNeg)) v7_144 z V (lv_sub hl [1, 2, 3, 4, 5] rfl) hw
          · have hw := hw.2 c_172
            refine lv_iload hx hb dX12_layLearned_175 (lv_at hl 0 rfl) ?_
            refine lv_bipush (v := 65) hx hb dX12_layLearned_177 (by decide) ?_
            refine lv_isub hx hb dX12_layLearned_179 ?_
            refine lv_bipush (v := 97) hx hb dX12_layLearned_180 (by decide) ?_
            refine lv_iadd hx hb dX12_layLearned_182 ?_
            refine lv_goto (tgt := 188) hx hb dX12_layLearned_183 (by decide) ?_
            exact B188 K90 k90 (wX12_layLearned_99 p1 p2 K90 P n) ih v3 v5 v6 ((v3 + 6) + (z (v3 + 5).toNatClampNeg)) ((v7_144 - 65) + 97) z V (lv_sub hl [1, 2, 3, 4, 5] rfl) hw
  have B90 :  ∀ (n : Nat), ∀ {H : Heap} {locs : List Loc} {ls : Array Slot} (v3 : Int32) (v5 : Int32) (z : Nat → Int32) (V : VW g A s.heap H locs (gX12 g a_this a_this_z a_this_saved a_this_text a_this_line a_this_aside a_this_read a_this_fewest thrown z saves saved length text many line aside isWord entries rdA fewest h)) (hl : lv_has ls 8 [(0, .ref a_this), (2, .int p2), (3, .int v3), (5, .int v5)]) (hw : wX12_layLearned_90 p1 p2 P n v3 v5 z), W p l e (kR 2 43 0 0) s m ([.ref a_this, .int p1, .int p2] : List Value).toArray below meth c H locs 0 0 Q (F0 m 90 ls []) := by
    intro n
    induction n with
    | zero => intro _ _ _ _ _ _ V hl hw; exact hw.elim
    | succ n ih =>
      intro H locs ls v3 v5 z V hl hw
      refine lv_iload hx hb dX12_layLearned_90 (lv_at hl 3 rfl) ?_
      refine lv_iload_n hx hb dX12_layLearned_92 rfl (lv_at hl 1 rfl) ?_
      refine lv_icmp_gt (tgt := 213) hx hb dX12_layLearned_93 (by decide) (fun c_93 => ?_) (fun c_93 => ?_)
      · have hw := hw.1 c_93
        exact ret _ _ _ _ _ dX12_layLearned_213 V hw
      · have hw := hw.2 c_93
        refine lv_iconst (v := 0) hx hb dX12_layLearned_96 (by decide) ?_
        refine lv_istore (lv' := [(6, .int 0), (0, .ref a_this), (2, .int p2), (3, .int v3), (5, .int v5)]) hx hb dX12_layLearned_97 hl (by decide) rfl (fun ls hl => ?_)
        obtain ⟨n_99, hw⟩ := hw
        exact B99 (wX12_layLearned_90 p1 p2 P n) ih n_99 v3 v5 0 z V (lv_sub hl [1, 2, 3, 4, 0] rfl) hw
  have B36 :  ∀ (n : Nat), ∀ {H : Heap} {locs : List Loc} {ls : Array Slot} (v3 : Int32) (v4 : Int32) (v5 : Int32) (z : Nat → Int32) (V : VW g A s.heap H locs (gX12 g a_this a_this_z a_this_saved a_this_text a_this_line a_this_aside a_this_read a_this_fewest thrown z saves saved length text many line aside isWord entries rdA fewest h)) (hl : lv_has ls 8 [(0, .ref a_this), (1, .int p1), (2, .int p2), (3, .int v3), (4, .int v4), (5, .int v5)]) (hw : wX12_layLearned_36 p1 p2 P n v3 v4 v5 z), W p l e (kR 2 43 0 0) s m ([.ref a_this, .int p1, .int p2] : List Value).toArray below meth c H locs 0 0 Q (F0 m 36 ls []) := by
    intro n
    induction n with
    | zero => intro _ _ _ _ _ _ _ V hl hw; exact hw.elim
    | succ n ih =>
      intro H locs ls v3 v4 v5 z V hl hw
      refine lv_iload hx hb dX12_layLearned_36 (lv_at hl 5 rfl) ?_
      refine lv_aload_n hx hb dX12_layLearned_38 rfl (lv_at hl 0 rfl) ?_
      refine kget F V 8 1 0 rfl rfl iX12_layLearned_X12 fX12_layLearned_7 (by decide) rfl rfl dX12_layLearned_39 ?_
      refine lv_iload_n hx hb dX12_layLearned_42 rfl (lv_at hl 3 rfl) ?_
      refine kiald F V 1 rfl hw.1 dX12_layLearned_43 ?_
      have hw := hw.2
      refine lv_icmp_ge (tgt := 78) hx hb dX12_layLearned_44 (by decide) (fun c_44 => ?_) (fun c_44 => ?_)
      · have hw := hw.1 c_44
        refine lv_aload_n hx hb dX12_layLearned_78 rfl (lv_at hl 0 rfl) ?_
        refine kget F V 8 1 0 rfl rfl iX12_layLearned_X12 fX12_layLearned_7 (by decide) rfl rfl dX12_layLearned_79 ?_
        refine lv_iload_n hx hb dX12_layLearned_82 rfl (lv_at hl 3 rfl) ?_
        refine lv_iconst (v := 5) hx hb dX12_layLearned_83 (by decide) ?_
        refine lv_iadd hx hb dX12_layLearned_84 ?_
        refine lv_iconst (v := 0) hx hb dX12_layLearned_85 (by decide) ?_
        refine kiast F V 1 rfl hw.1 dX12_layLearned_86 (fun z_86 ez_86 H locs V => ?_)
        have hw := hw.2 z_86 ez_86
        have V : VW g A s.heap H locs (gX12 g a_this a_this_z a_this_saved a_this_text a_this_line a_this_aside a_this_read a_this_fewest thrown z_86 saves saved length text many line aside isWord entries rdA fewest h) := V
        refine lv_iload_n hx hb dX12_layLearned_87 rfl (lv_at hl 1 rfl) ?_
        refine lv_istore (lv' := [(5, .int p1), (0, .ref a_this), (1, .int p1), (2, .int p2), (3, .int v3), (4, .int v4)]) hx hb dX12_layLearned_88 hl (by decide) rfl (fun ls hl => ?_)
        obtain ⟨n_90, hw⟩ := hw
        exact B90  n_90 v3 p1 z_86 V (lv_sub hl [1, 3, 4, 0] rfl) hw
      · have hw := hw.2 c_44
        refine lv_aload_n hx hb dX12_layLearned_47 rfl (lv_at hl 0 rfl) ?_
        refine kget F V 8 1 0 rfl rfl iX12_layLearned_X12 fX12_layLearned_7 (by decide) rfl rfl dX12_layLearned_48 ?_
        refine lv_iload_n hx hb dX12_layLearned_51 rfl (lv_at hl 3 rfl) ?_
        refine lv_iconst (v := 1) hx hb dX12_layLearned_52 (by decide) ?_
        refine lv_iadd hx hb dX12_layLearned_53 ?_
        refine lv_iload hx hb dX12_layLearned_54 (lv_at hl 5 rfl) ?_
        refine lv_iadd hx hb dX12_layLearned_56 ?_
        refine lv_aload_n hx hb dX12_layLearned_57 rfl (lv_at hl 0 rfl) ?_
        refine kget F V 8 1 0 rfl rfl iX12_layLearned_X12 fX12_layLearned_7 (by decide) rfl rfl dX12_layLearned_58 ?_
        refine lv_sipush (v := 338) hx hb dX12_layLearned_61 (by decide) ?_
        refine lv_iload hx hb dX12_layLearned_64 (lv_at hl 4 rfl) ?_
        refine lv_iadd hx hb dX12_layLearned_66 ?_
        refine lv_iload hx hb dX12_layLearned_67 (lv_at hl 5 rfl) ?_
        refine lv_iadd hx hb dX12_layLearned_69 ?_
        refine kiald F V 1 rfl hw.1 dX12_layLearned_70 ?_
        have hw := hw.2
        refine kiast F V 1 rfl hw.1 dX12_layLearned_71 (fun z_71 ez_71 H locs V => ?_)
        have hw := hw.2 z_71 ez_71
        have V : VW g A s.heap H locs (gX12 g a_this a_this_z a_this_saved a_this_text a_this_line a_this_aside a_this_read a_this_fewest thrown z_71 saves saved length text many line aside isWord entries rdA fewest h) := V
        refine lv_iinc (v := v5 + 1) (lv' := [(5, .int (v5 + 1)), (0, .ref a_this), (1, .int p1), (2, .int p2), (3, .int v3), (4, .int v4)]) hx hb dX12_layLearned_72 hl (k := 5) rfl rfl (by decide) rfl (fun ls hl => ?_)
        refine lv_goto (tgt := 36) hx hb dX12_layLearned_75 (by decide) ?_
        exact ih v3 v4 (v5 + 1) z_71 V (lv_sub hl [1, 2, 3, 4, 5, 0] rfl) hw
  refine lv_aload_n hx hb dX12_layLearned_0 rfl (lv_at hl 0 rfl) ?_
  refine kget F V 8 1 0 rfl rfl iX12_layLearned_X12 fX12_layLearned_7 (by decide) rfl rfl dX12_layLearned_1 ?_
  refine lv_iconst (v := 0) hx hb dX12_layLearned_4 (by decide) ?_
  refine kiald F V 1 rfl hw.1 dX12_layLearned_5 ?_
  have hw := hw.2
  refine kSi0n (rest := []) F hl V (kX12_entryAt l g (z (0 : Int32).toNatClampNeg) _ hw) gX12_layLearned_X12_entryAt rfl 1 rfl hdX12_entryAt ⟨Nat.le_of_ble_eq_true rfl, Nat.le_of_ble_eq_true rfl⟩ ⟨Nat.le_of_ble_eq_true rfl, Nat.le_of_ble_eq_true rfl⟩ (Nat.le_of_ble_eq_true rfl) rfl dX12_layLearned_6 (fun r_6 H locs hw V => ?_)
  refine lv_istore_n (lv' := [(3, .int r_6), (0, .ref a_this), (1, .int p1), (2, .int p2)]) hx hb dX12_layLearned_9 rfl hl (by decide) rfl (fun ls hl => ?_)
  refine lv_aload_n hx hb dX12_layLearned_10 rfl (lv_at hl 1 rfl) ?_
  refine lv_iload_n hx hb dX12_layLearned_11 rfl (lv_at hl 2 rfl) ?_
  refine kVi0 (rest := []) F hl V [0, 1, 2, 3, 4, 5, 6, 7] [] [0, 1, 2, 3, 4, 5, 6, 7] (gX12 g a_this a_this_z a_this_saved a_this_text a_this_line a_this_aside a_this_read a_this_fewest thrown z saves saved length text many line aside isWord entries rdA fewest h) a_this 8 0 rfl rfl (kX12_strokesAhead l g a_this a_this_z a_this_saved a_this_text a_this_line a_this_aside a_this_read a_this_fewest thrown z saves saved length text many line aside isWord entries rdA fewest h p1 _ hw) gX12_layLearned_X12_strokesAhead rfl 1 rfl hdX12_strokesAhead rfl rfl (fun _ => rfl) rfl rfl rfl (by decide) ⟨Nat.le_of_ble_eq_true rfl, Nat.le_of_ble_eq_true rfl⟩ ⟨Nat.le_of_ble_eq_true rfl, Nat.le_of_ble_eq_true rfl⟩ (Nat.le_of_ble_eq_true rfl) rfl dX12_layLearned_12 (fun r_12 H locs hw V => ?_)
  refine lv_istore (lv' := [(4, .int r_12), (3, .int r_6), (0, .ref a_this), (1, .int p1), (2, .int p2)]) hx hb dX12_layLearned_15 hl (by decide) rfl (fun ls hl => ?_)
  refine lv_aload_n hx hb dX12_layLearned_17 rfl (lv_at hl 2 rfl) ?_
  refine kget F V 8 1 0 rfl rfl iX12_layLearned_X12 fX12_layLearned_7 (by decide) rfl rfl dX12_layLearned_18 ?_
  refine lv_iload_n hx hb dX12_layLearned_21 rfl (lv_at hl 1 rfl) ?_
  refine lv_aload_n hx hb dX12_layLearned_22 rfl (lv_at hl 2 rfl) ?_
  refine lv_iload_n hx hb dX12_layLearned_23 rfl (lv_at hl 4 rfl) ?_
  refine lv_iconst (v := 1) hx hb dX12_layLearned_24 (by decide) ?_
  refine lv_iadd hx hb dX12_layLearned_25 ?_
  refine kVi0 (rest := [.int r_6, .ref a_this_z]) F hl V [0, 1, 2, 3, 4, 5, 6, 7] [] [0, 1, 2, 3, 4, 5, 6, 7] (gX12 g a_this a_this_z a_this_saved a_this_text a_this_line a_this_aside a_this_read a_this_fewest thrown z saves saved length text many line aside isWord entries rdA fewest h) a_this 8 0 rfl rfl (kX12_strokesAhead l g a_this a_this_z a_this_saved a_this_text a_this_line a_this_aside a_this_read a_this_fewest thrown z saves saved length text many line aside isWord entries rdA fewest h (p2 + 1) _ hw) gX12_layLearned_X12_strokesAhead rfl 1 rfl hdX12_strokesAhead rfl rfl (fun _ => rfl) rfl rfl rfl (by decide) ⟨Nat.le_of_ble_eq_true rfl, Nat.le_of_ble_eq_true rfl⟩ ⟨Nat.le_of_ble_eq_true rfl, Nat.le_of_ble_eq_true rfl⟩ (Nat.le_of_ble_eq_true rfl) rfl dX12_layLearned_26 (fun r_26 H locs hw V => ?_)
  refine lv_iload hx hb dX12_layLearned_29 (lv_at hl 0 rfl) ?_
  refine lv_isub hx hb dX12_layLearned_31 ?_
  refine kiast F V 1 rfl hw.1 dX12_layLearned_32 (fun z_32 ez_32 H locs V => ?_)
  have hw := hw.2 z_32 ez_32
  have V : VW g A s.heap H locs (gX12 g a_this a_this_z a_this_saved a_this_text a_this_line a_this_aside a_this_read a_this_fewest thrown z_32 saves saved length text many line aside isWord entries rdA fewest h) := V
  refine lv_iconst (v := 0) hx hb dX12_layLearned_33 (by decide) ?_
  refine lv_istore (lv' := [(5, .int 0), (4, .int r_12), (3, .int r_6), (0, .ref a_this), (1, .int p1), (2, .int p2)]) hx hb dX12_layLearned_34 hl (by decide) rfl (fun ls hl => ?_)
  obtain ⟨n_36, hw⟩ := hw
  exact B36  n_36 r_6 r_12 0 z_32 V (lv_sub hl [3, 4, 5, 2, 1, 0] rfl) hw
theorem hdX12_isLearned : yX12_isLearned.cls = RX12 ∧ yX12_isLearned.cls ≠ "java/lang/invoke/MethodHandle" ∧ yX12_isLearned.cls ≠ "java/lang/invoke/VarHandle" ∧ (parseMethodDescriptor yX12_isLearned.desc).map (fun d => d.parameters.length) = some 2 := by decide +kernel
def wX12_isLearned (p1 : Int32) (p2 : Int32) (P : Int32 → (Nat → Int32) → Prop) (z : Nat → Int32) : Prop := wX12_layLearned p1 p2 (fun z_3 => wX12_isOutlineThere z_3 (fun r_7 => (r_7 = 0 ∨ r_7 = 1) ∧ P r_7 z_3)) z
set_option maxHeartbeats 4000000 in
set_option maxRecDepth 100000 in
theorem kX12_isLearned (l : Launch) (g : kT) (a_this : Nat) (a_this_z : Nat) (a_this_saved : Nat) (a_this_text : Nat) (a_this_line : Nat) (a_this_aside : Nat) (a_this_read : Nat) (a_this_fewest : Nat) (thrown : Int32) (z : Nat → Int32) (saves : Int32) (saved : Nat → Int32) (length : Int32) (text : Nat → Int32) (many : Int32) (line : Nat → Int32) (aside : Nat → Int32) (isWord : Int32) (entries : Int32) (rdA : Nat → Int32) (fewest : Nat → Int32) (h : Int64) (p1 : Int32) (p2 : Int32) (P : Int32 → (Nat → Int32) → Prop) (hw : wX12_isLearned p1 p2 P z) : Ki1 l g yX12_isLearned wsX12_isLearned 3 70 0 0 [.ref a_this, .int p1, .int p2] (gX12 g a_this a_this_z a_this_saved a_this_text a_this_line a_this_aside a_this_read a_this_fewest thrown z saves saved length text many line aside isWord entries rdA fewest h) P (fun z => (gX12 g a_this a_this_z a_this_saved a_this_text a_this_line a_this_aside a_this_read a_this_fewest thrown z saves saved length text many line aside isWord entries rdA fewest h)) := by
  refine Ki1.mk (cc := cX12_isLearned) (nL := 3) (ty := .boolean) (by decide +kernel) rfl (Nat.le_of_ble_eq_true rfl) ?_
  intro p e s m below meth c A Q ls F hl V ret
  have hx := F.x
  have hb := F.b
  have hl : lv_has ls 3 [(0, .ref a_this), (1, .int p1), (2, .int p2)] := hl
  refine lv_aload_n hx hb dX12_isLearned_0 rfl (lv_at hl 0 rfl) ?_
  refine lv_iload_n hx hb dX12_isLearned_1 rfl (lv_at hl 1 rfl) ?_
  refine lv_iload_n hx hb dX12_isLearned_2 rfl (lv_at hl 2 rfl) ?_
  refine kVv1 (rest := []) F hl V [0, 1, 2, 3, 4, 5, 6, 7] [] [0, 1, 2, 3, 4, 5, 6, 7] (fun z_3 => (gX12 g a_this a_this_z a_this_saved a_this_text a_this_line a_this_aside a_this_read a_this_fewest thrown z_3 saves saved length text many line aside isWord entries rdA fewest h)) a_this 8 0 rfl rfl (kX12_layLearned l g a_this a_this_z a_this_saved a_this_text a_this_line a_this_aside a_this_read a_this_fewest thrown z saves saved length text many line aside isWord entries rdA fewest h p1 p2 _ hw) gX12_isLearned_X12_layLearned rfl 2 rfl hdX12_layLearned rfl rfl (fun _ => rfl) rfl rfl rfl (by decide) ⟨Nat.le_of_ble_eq_true rfl, Nat.le_of_ble_eq_true rfl⟩ ⟨Nat.le_of_ble_eq_true rfl, Nat.le_of_ble_eq_true rfl⟩ (Nat.le_of_ble_eq_true rfl) rfl dX12_isLearned_3 (fun z_3 H locs hw V => ?_)
  refine lv_aload_n hx hb dX12_isLearned_6 rfl (lv_at hl 0 rfl) ?_
  refine kVi0 (rest := []) F hl V [0, 1, 2, 3, 4, 5, 6, 7] [] [0, 1, 2, 3, 4, 5, 6, 7] (gX12 g a_this a_this_z a_this_saved a_this_text a_this_line a_this_aside a_this_read a_this_fewest thrown z_3 saves saved length text many line aside isWord entries rdA fewest h) a_this 8 0 rfl rfl (kX12_isOutlineThere l g a_this a_this_z a_this_saved a_this_text a_this_line a_this_aside a_this_read a_this_fewest thrown z_3 saves saved length text many line aside isWord entries rdA fewest h _ hw) gX12_isLearned_X12_isOutlineThere rfl 0 rfl hdX12_isOutlineThere rfl rfl (fun _ => rfl) rfl rfl rfl (by decide) ⟨Nat.le_of_ble_eq_true rfl, Nat.le_of_ble_eq_true rfl⟩ ⟨Nat.le_of_ble_eq_true rfl, Nat.le_of_ble_eq_true rfl⟩ (Nat.le_of_ble_eq_true rfl) rfl dX12_isLearned_7 (fun r_7 H locs hw V => ?_)
  exact ret _ _ _ _ _ _ (k01n hw.1) dX12_isLearned_10 V hw.2
theorem hdX12_learn : yX12_learn.cls = RX12 ∧ yX12_learn.cls ≠ "java/lang/invoke/MethodHandle" ∧ yX12_learn.cls ≠ "java/lang/invoke/VarHandle" ∧ (parseMethodDescriptor yX12_learn.desc).map (fun d => d.parameters.length) = some 2 := by decide +kernel
theorem fX12_learn_31 : Cond.fieldLink RX12 31 RX12 "thrown" "I" ∈ wsX12_learn := by decide +kernel
theorem iX12_learn_X12 : ∀ w ∈ u_ws RX12 TX12 14, w ∈ wsX12_learn := by decide +kernel
theorem fX12_learn_7 : Cond.fieldLink RX12 7 RX12 "z" "[I" ∈ wsX12_learn := by decide +kernel
def wX12_learn_85 (p1 : Int32) (p2 : Int32) (P : Int32 → Int32 → (Nat → Int32) → Int32 → (Nat → Int32) → Int32 → (Nat → Int32) → Prop) (s1 : Int32) (thrown : Int32) (z : Nat → Int32) (saves : Int32) (saved : Nat → Int32) (many : Int32) (line : Nat → Int32) : Prop := (s1 ≤ 0 → wX12_save z (fun saves_98 saved_98 => wX12_layLearned p1 p2 (fun z_104 => vp_in 0 1317 ∧ vp_in 0 1317 ∧ ∀ z_116 : Nat → Int32, z_116 = upd z_104 (0 : Int32).toNatClampNeg ((z_104 (0 : Int32).toNatClampNeg) + 1) → wX12_translate (fun z_118 many_118 line_118 => vp_in 0 1317 ∧ P ((z_118 (0 : Int32).toNatClampNeg) - 1) s1 z_118 saves_98 saved_98 many_118 line_118) z_116 many line) z) saves saved) ∧ (¬ (s1 ≤ 0) → P 0 s1 z saves saved many line)
def wX12_learn_80 (p1 : Int32) (p2 : Int32) (P : Int32 → Int32 → (Nat → Int32) → Int32 → (Nat → Int32) → Int32 → (Nat → Int32) → Prop) (thrown : Int32) (z : Nat → Int32) (saves : Int32) (saved : Nat → Int32) (many : Int32) (line : Nat → Int32) : Prop := wX12_learn_85 p1 p2 P 3 thrown z saves saved many line
def wX12_learn_50 (p1 : Int32) (p2 : Int32) (P : Int32 → Int32 → (Nat → Int32) → Int32 → (Nat → Int32) → Int32 → (Nat → Int32) → Prop) (s0 : Int32) (thrown : Int32) (z : Nat → Int32) (saves : Int32) (saved : Nat → Int32) (many : Int32) (line : Nat → Int32) : Prop := (¬ s0 = 0 → vp_in 0 1317 ∧ ((z (0 : Int32).toNatClampNeg) = 24 → wX12_learn_80 p1 p2 P thrown z saves saved many line) ∧ (¬ ((z (0 : Int32).toNatClampNeg) = 24) → wX12_isLearned p1 p2 (fun r_74 z_74 => (r_74 = 0 → wX12_learn_85 p1 p2 P 0 thrown z_74 saves saved many line) ∧ (¬ (r_74 = 0) → wX12_learn_80 p1 p2 P thrown z_74 saves saved many line)) z)) ∧ (s0 = 0 → wX12_learn_85 p1 p2 P 2 thrown z saves saved many line)
def wX12_learn_49 (p1 : Int32) (p2 : Int32) (P : Int32 → Int32 → (Nat → Int32) → Int32 → (Nat → Int32) → Int32 → (Nat → Int32) → Prop) (thrown : Int32) (z : Nat → Int32) (saves : Int32) (saved : Nat → Int32) (many : Int32) (line : Nat → Int32) : Prop := wX12_learn_50 p1 p2 P 0 thrown z saves saved many line
def wX12_learn_16 (p1 : Int32) (p2 : Int32) (P : Int32 → Int32 → (Nat → Int32) → Int32 → (Nat → Int32) → Int32 → (Nat → Int32) → Prop) (thrown : Int32) (z : Nat → Int32) (saves : Int32) (saved : Nat → Int32) (many : Int32) (line : Nat → Int32) : Prop := P 0 1 z saves saved many line
def wX12_learn (p1 : Int32) (p2 : Int32) (P : Int32 → Int32 → (Nat → Int32) → Int32 → (Nat → Int32) → Int32 → (Nat → Int32) → Prop) (thrown : Int32) (z : Nat → Int32) (saves : Int32) (saved : Nat → Int32) (many : Int32) (line : Nat → Int32) : Prop := wX12_isItem z p1 (fun r_2 => (r_2 = 0 → wX12_learn_16 p1 p2 P thrown z saves saved many line) ∧ (¬ (r_2 = 0) → wX12_isItem z p2 (fun r_10 => (¬ r_10 = 0 → (p2 < p1 → wX12_learn_49 p1 p2 P thrown z saves saved many line) ∧ (¬ (p2 < p1) → wX12_strokesAhead z (p2 + 1) (fun r_32 => wX12_strokesAhead z p1 (fun r_37 => (4 < (r_32 - r_37) → wX12_learn_49 p1 p2 P thrown z saves saved many line) ∧ (¬ (4 < (r_32 - r_37)) → wX12_learn_50 p1 p2 P 1 thrown z saves saved many line))))) ∧ (r_10 = 0 → wX12_learn_16 p1 p2 P thrown z saves saved many line))))
set_option maxHeartbeats 4000000 in
set_option maxRecDepth 100000 in
theorem kX12_learn (l : Launch) (g : kT) (a_this : Nat) (a_this_z : Nat) (a_this_saved : Nat) (a_this_text : Nat) (a_this_line : Nat) (a_this_aside : Nat) (a_this_read : Nat) (a_this_fewest : Nat) (thrown : Int32) (z : Nat → Int32) (saves : Int32) (saved : Nat → Int32) (length : Int32) (text : Nat → Int32) (many : Int32) (line : Nat → Int32) (aside : Nat → Int32) (isWord : Int32) (entries : Int32) (rdA : Nat → Int32) (fewest : Nat → Int32) (h : Int64) (p1 : Int32) (p2 : Int32) (P : Int32 → Int32 → (Nat → Int32) → Int32 → (Nat → Int32) → Int32 → (Nat → Int32) → Prop) (hw : wX12_learn p1 p2 P thrown z saves saved many line) : Ki6 l g yX12_learn wsX12_learn 4 92 0 0 [.ref a_this, .int p1, .int p2] (gX12 g a_this a_this_z a_this_saved a_this_text a_this_line a_this_aside a_this_read a_this_fewest thrown z saves saved length text many line aside isWord entries rdA fewest h) P (fun thrown z saves saved many line => (gX12 g a_this a_this_z a_this_saved a_this_text a_this_line a_this_aside a_this_read a_this_fewest thrown z saves saved length text many line aside isWord entries rdA fewest h)) := by
  refine Ki6.mk (cc := cX12_learn) (nL := 4) (ty := .int) (by decide +kernel) rfl (Nat.le_of_ble_eq_true rfl) ?_
  intro p e s m below meth c A Q ls F hl V ret
  have hx := F.x
  have hb := F.b
  have hl : lv_has ls 4 [(0, .ref a_this), (1, .int p1), (2, .int p2)] := hl
  have B85 :  ∀ {H : Heap} {locs : List Loc} {ls : Array Slot} (s1 : Int32) (thrown : Int32) (z : Nat → Int32) (saves : Int32) (saved : Nat → Int32) (many : Int32) (line : Nat → Int32) (V : VW g A s.heap H locs (gX12 g a_this a_this_z a_this_saved a_this_text a_this_line a_this_aside a_this_read a_this_fewest thrown z saves saved length text many line aside isWord entries rdA fewest h)) (hl : lv_has ls 4 [(0, .ref a_this), (1, .int p1), (2, .int p2)]) (hw : wX12_learn_85 p1 p2 P s1 thrown z saves saved many line), W p l e (kR 4 92 0 0) s m ([.ref a_this, .int p1, .int p2] : List Value).toArray below meth c H locs 0 0 Q (F0 m 85 ls [.int s1, .ref a_this]) := by
    intro  H locs ls s1 thrown z saves saved many line V hl hw
    refine kput F V 8 0 0 tyX12_ok nmX12 rfl rfl iX12_learn_X12 fX12_learn_31 (by decide) rfl rfl rfl rfl (Nat.le_of_ble_eq_true rfl) dX12_learn_85 (fun H locs V => ?_)
    have V : VW g A s.heap H locs (gX12 g a_this a_this_z a_this_saved a_this_text a_this_line a_this_aside a_this_read a_this_fewest s1 z saves saved length text many line aside isWord entries rdA fewest h) := V
    refine lv_aload_n hx hb dX12_learn_88 rfl (lv_at hl 0 rfl) ?_
    refine kget F V 8 0 0 rfl rfl iX12_learn_X12 fX12_learn_31 (by decide) rfl rfl dX12_learn_89 ?_
    refine lv_if_le (tgt := 97) hx hb dX12_learn_92 (by decide) (fun c_92 => ?_) (fun c_92 => ?_)
    · have hw := hw.1 c_92
      refine lv_aload_n hx hb dX12_learn_97 rfl (lv_at hl 0 rfl) ?_
      refine kVv2 (rest := []) F hl V [0, 1, 2, 3, 4, 5, 6, 7] [] [0, 1, 2, 3, 4, 5, 6, 7] (fun saves_98 saved_98 => (gX12 g a_this a_this_z a_this_saved a_this_text a_this_line a_this_aside a_this_read a_this_fewest s1 z saves_98 saved_98 length text many line aside isWord entries rdA fewest h)) a_this 8 0 rfl rfl (kX12_save l g a_this a_this_z a_this_saved a_this_text a_this_line a_this_aside a_this_read a_this_fewest s1 z saves saved length text many line aside isWord entries rdA fewest h _ hw) gX12_learn_X12_save rfl 0 rfl hdX12_save rfl rfl (fun _ _ => rfl) rfl rfl rfl (by decide) ⟨Nat.le_of_ble_eq_true rfl, Nat.le_of_ble_eq_true rfl⟩ ⟨Nat.le_of_ble_eq_true rfl, Nat.le_of_ble_eq_true rfl⟩ (Nat.le_of_ble_eq_true rfl) rfl dX12_learn_98 (fun saves_98 saved_98 H locs hw V => ?_)
      refine lv_aload_n hx hb dX12_learn_101 rfl (lv_at hl 0 rfl) ?_
      refine lv_iload_n hx hb dX12_learn_102 rfl (lv_at hl 1 rfl) ?_
      refine lv_iload_n hx hb dX12_learn_103 rfl (lv_at hl 2 rfl) ?_
      refine kVv1 (rest := []) F hl V [0, 1, 2, 3, 4, 5, 6, 7] [] [0, 1, 2, 3, 4, 5, 6, 7] (fun z_104 => (gX12 g a_this a_this_z a_this_saved a_this_text a_this_line a_this_aside a_this_read a_this_fewest s1 z_104 saves_98 saved_98 length text many line aside isWord entries rdA fewest h)) a_this 8 0 rfl rfl (kX12_layLearned l g a_this a_this_z a_this_saved a_this_text a_this_line a_this_aside a_this_read a_this_fewest s1 z saves_98 saved_98 length text many line aside isWord entries rdA fewest h p1 p2 _ hw) gX12_learn_X12_layLearned rfl 2 rfl hdX12_layLearned rfl rfl (fun _ => rfl) rfl rfl rfl (by decide) ⟨Nat.le_of_ble_eq_true rfl, Nat.le_of_ble_eq_true rfl⟩ ⟨Nat.le_of_ble_eq_true rfl, Nat.le_of_ble_eq_true rfl⟩ (Nat.le_of_ble_eq_true rfl) rfl dX12_learn_104 (fun z_104 H locs hw V => ?_)
      refine lv_aload_n hx hb dX12_learn_107 rfl (lv_at hl 0 rfl) ?_
      refine kget F V 8 1 0 rfl rfl iX12_learn_X12 fX12_learn_7 (by decide) rfl rfl dX12_learn_108 ?_
      refine lv_iconst (v := 0) hx hb dX12_learn_111 (by decide) ?_
      refine lv_dup2_11 hx hb dX12_learn_112 rfl rfl ?_
      refine kiald F V 1 rfl hw.1 dX12_learn_113 ?_
      have hw := hw.2
      refine lv_iconst (v := 1) hx hb dX12_learn_114 (by decide) ?_
      refine lv_iadd hx hb dX12_learn_115 ?_
      refine kiast F V 1 rfl hw.1 dX12_learn_116 (fun z_116 ez_116 H locs V => ?_)
      have hw := hw.2 z_116 ez_116
      have V : VW g A s.heap H locs (gX12 g a_this a_this_z a_this_saved a_this_text a_this_line a_this_aside a_this_read a_this_fewest s1 z_116 saves_98 saved_98 length text many line aside isWord entries rdA fewest h) := V
      refine lv_aload_n hx hb dX12_learn_117 rfl (lv_at hl 0 rfl) ?_
      refine kVv3 (rest := []) F hl V [0, 1, 2, 3, 4, 5, 6, 7] [] [0, 1, 2, 3, 4, 5, 6, 7] (fun z_118 many_118 line_118 => (gX12 g a_this a_this_z a_this_saved a_this_text a_this_line a_this_aside a_this_read a_this_fewest s1 z_118 saves_98 saved_98 length text many_118 line_118 aside isWord entries rdA fewest h)) a_this 8 0 rfl rfl (kX12_translate l g a_this a_this_z a_this_saved a_this_text a_this_line a_this_aside a_this_read a_this_fewest s1 z_116 saves_98 saved_98 length text many line aside isWord entries rdA fewest h _ hw) gX12_learn_X12_translate rfl 0 rfl hdX12_translate rfl rfl (fun _ _ _ => rfl) rfl rfl rfl (by decide) ⟨Nat.le_of_ble_eq_true rfl, Nat.le_of_ble_eq_true rfl⟩ ⟨Nat.le_of_ble_eq_true rfl, Nat.le_of_ble_eq_true rfl⟩ (Nat.le_of_ble_eq_true rfl) rfl dX12_learn_118 (fun z_118 many_118 line_118 H locs hw V => ?_)
      refine lv_aload_n hx hb dX12_learn_121 rfl (lv_at hl 0 rfl) ?_
      refine kget F V 8 1 0 rfl rfl iX12_learn_X12 fX12_learn_7 (by decide) rfl rfl dX12_learn_122 ?_
      refine lv_iconst (v := 0) hx hb dX12_learn_125 (by decide) ?_
      refine kiald F V 1 rfl hw.1 dX12_learn_126 ?_
      have hw := hw.2
      refine lv_iconst (v := 1) hx hb dX12_learn_127 (by decide) ?_
      refine lv_isub hx hb dX12_learn_128 ?_
      exact ret _ _ _ _ _ _ _ _ _ _ _ rfl dX12_learn_129 V hw
    · have hw := hw.2 c_92
      refine lv_iconst (v := 0) hx hb dX12_learn_95 (by decide) ?_
      exact ret _ _ _ _ _ _ _ _ _ _ _ rfl dX12_learn_96 V hw
  have B80 :  ∀ {H : Heap} {locs : List Loc} {ls : Array Slot} (thrown : Int32) (z : Nat → Int32) (saves : Int32) (saved : Nat → Int32) (many : Int32) (line : Nat → Int32) (V : VW g A s.heap H locs (gX12 g a_this a_this_z a_this_saved a_this_text a_this_line a_this_aside a_this_read a_this_fewest thrown z saves saved length text many line aside isWord entries rdA fewest h)) (hl : lv_has ls 4 [(0, .ref a_this), (1, .int p1), (2, .int p2)]) (hw : wX12_learn_80 p1 p2 P thrown z saves saved many line), W p l e (kR 4 92 0 0) s m ([.ref a_this, .int p1, .int p2] : List Value).toArray below meth c H locs 0 0 Q (F0 m 80 ls [.ref a_this]) := by
    intro  H locs ls thrown z saves saved many line V hl hw
    refine lv_iconst (v := 3) hx hb dX12_learn_80 (by decide) ?_
    refine lv_goto (tgt := 85) hx hb dX12_learn_81 (by decide) ?_
    exact B85  3 thrown z saves saved many line V hl hw
  have B50 :  ∀ {H : Heap} {locs : List Loc} {ls : Array Slot} (s0 : Int32) (thrown : Int32) (z : Nat → Int32) (saves : Int32) (saved : Nat → Int32) (many : Int32) (line : Nat → Int32) (V : VW g A s.heap H locs (gX12 g a_this a_this_z a_this_saved a_this_text a_this_line a_this_aside a_this_read a_this_fewest thrown z saves saved length text many line aside isWord entries rdA fewest h)) (hl : lv_has ls 4 [(0, .ref a_this), (1, .int p1), (2, .int p2)]) (hw : wX12_learn_50 p1 p2 P s0 thrown z saves saved many line), W p l e (kR 4 92 0 0) s m ([.ref a_this, .int p1, .int p2] : List Value).toArray below meth c H locs 0 0 Q (F0 m 50 ls [.int s0]) := by
    intro  H locs ls s0 thrown z saves saved many line V hl hw
    refine lv_istore_n (lv' := [(3, .int s0), (0, .ref a_this), (1, .int p1), (2, .int p2)]) hx hb dX12_learn_50 rfl hl (by decide) rfl (fun ls hl => ?_)
    refine lv_aload_n hx hb dX12_learn_51 rfl (lv_at hl 1 rfl) ?_
    refine lv_iload_n hx hb dX12_learn_52 rfl (lv_at hl 0 rfl) ?_
    refine lv_if_ne (tgt := 60) hx hb dX12_learn_53 (by decide) (fun c_53 => ?_) (fun c_53 => ?_)
    · have hw := hw.1 c_53
      refine lv_aload_n hx hb dX12_learn_60 rfl (lv_at hl 1 rfl) ?_
      refine kget F V 8 1 0 rfl rfl iX12_learn_X12 fX12_learn_7 (by decide) rfl rfl dX12_learn_61 ?_
      refine lv_iconst (v := 0) hx hb dX12_learn_64 (by decide) ?_
      refine kiald F V 1 rfl hw.1 dX12_learn_65 ?_
      have hw := hw.2
      refine lv_bipush (v := 24) hx hb dX12_learn_66 (by decide) ?_
      refine lv_icmp_eq (tgt := 80) hx hb dX12_learn_68 (by decide) (fun c_68 => ?_) (fun c_68 => ?_)
      · have hw := hw.1 c_68
        exact B80  thrown z saves saved many line V (lv_sub hl [1, 2, 3] rfl) hw
      · have hw := hw.2 c_68
        refine lv_aload_n hx hb dX12_learn_71 rfl (lv_at hl 1 rfl) ?_
        refine lv_iload_n hx hb dX12_learn_72 rfl (lv_at hl 2 rfl) ?_
        refine lv_iload_n hx hb dX12_learn_73 rfl (lv_at hl 3 rfl) ?_
        refine kVi1 (rest := [.ref a_this]) F hl V [0, 1, 2, 3, 4, 5, 6, 7] [] [0, 1, 2, 3, 4, 5, 6, 7] (fun z_74 => (gX12 g a_this a_this_z a_this_saved a_this_text a_this_line a_this_aside a_this_read a_this_fewest thrown z_74 saves saved length text many line aside isWord entries rdA fewest h)) a_this 8 0 rfl rfl (kX12_isLearned l g a_this a_this_z a_this_saved a_this_text a_this_line a_this_aside a_this_read a_this_fewest thrown z saves saved length text many line aside isWord entries rdA fewest h p1 p2 _ hw) gX12_learn_X12_isLearned rfl 2 rfl hdX12_isLearned rfl rfl (fun _ => rfl) rfl rfl rfl (by decide) ⟨Nat.le_of_ble_eq_true rfl, Nat.le_of_ble_eq_true rfl⟩ ⟨Nat.le_of_ble_eq_true rfl, Nat.le_of_ble_eq_true rfl⟩ (Nat.le_of_ble_eq_true rfl) rfl dX12_learn_74 (fun r_74 z_74 H locs hw V => ?_)
        refine lv_if_eq (tgt := 84) hx hb dX12_learn_77 (by decide) (fun c_77 => ?_) (fun c_77 => ?_)
        · have hw := hw.1 c_77
          refine lv_iconst (v := 0) hx hb dX12_learn_84 (by decide) ?_
          exact B85  0 thrown z_74 saves saved many line V (lv_sub hl [1, 2, 3] rfl) hw
        · have hw := hw.2 c_77
          exact B80  thrown z_74 saves saved many line V (lv_sub hl [1, 2, 3] rfl) hw
    · have hw := hw.2 c_53
      refine lv_iconst (v := 2) hx hb dX12_learn_56 (by decide) ?_
      refine lv_goto (tgt := 85) hx hb dX12_learn_57 (by decide) ?_
      exact B85  2 thrown z saves saved many line V (lv_sub hl [1, 2, 3] rfl) hw
  have B49 :  ∀ {H : Heap} {locs : List Loc} {ls : Array Slot} (thrown : Int32) (z : Nat → Int32) (saves : Int32) (saved : Nat → Int32) (many : Int32) (line : Nat → Int32) (V : VW g A s.heap H locs (gX12 g a_this a_this_z a_this_saved a_this_text a_this_line a_this_aside a_this_read a_this_fewest thrown z saves saved length text many line aside isWord entries rdA fewest h)) (hl : lv_has ls 4 [(0, .ref a_this), (1, .int p1), (2, .int p2)]) (hw : wX12_learn_49 p1 p2 P thrown z saves saved many line), W p l e (kR 4 92 0 0) s m ([.ref a_this, .int p1, .int p2] : List Value).toArray below meth c H locs 0 0 Q (F0 m 49 ls []) := by
    intro  H locs ls thrown z saves saved many line V hl hw
    refine lv_iconst (v := 0) hx hb dX12_learn_49 (by decide) ?_
    exact B50  0 thrown z saves saved many line V hl hw
  have B16 :  ∀ {H : Heap} {locs : List Loc} {ls : Array Slot} (thrown : Int32) (z : Nat → Int32) (saves : Int32) (saved : Nat → Int32) (many : Int32) (line : Nat → Int32) (V : VW g A s.heap H locs (gX12 g a_this a_this_z a_this_saved a_this_text a_this_line a_this_aside a_this_read a_this_fewest thrown z saves saved length text many line aside isWord entries rdA fewest h)) (hl : lv_has ls 4 [(0, .ref a_this)]) (hw : wX12_learn_16 p1 p2 P thrown z saves saved many line), W p l e (kR 4 92 0 0) s m ([.ref a_this, .int p1, .int p2] : List Value).toArray below meth c H locs 0 0 Q (F0 m 16 ls []) := by
    intro  H locs ls thrown z saves saved many line V hl hw
    refine lv_aload_n hx hb dX12_learn_16 rfl (lv_at hl 0 rfl) ?_
    refine lv_iconst (v := 1) hx hb dX12_learn_17 (by decide) ?_
    refine kput F V 8 0 0 tyX12_ok nmX12 rfl rfl iX12_learn_X12 fX12_learn_31 (by decide) rfl rfl rfl rfl (Nat.le_of_ble_eq_true rfl) dX12_learn_18 (fun H locs V => ?_)
    have V : VW g A s.heap H locs (gX12 g a_this a_this_z a_this_saved a_this_text a_this_line a_this_aside a_this_read a_this_fewest 1 z saves saved length text many line aside isWord entries rdA fewest h) := V
    refine lv_iconst (v := 0) hx hb dX12_learn_21 (by decide) ?_
    exact ret _ _ _ _ _ _ _ _ _ _ _ rfl dX12_learn_22 V hw
  refine lv_aload_n hx hb dX12_learn_0 rfl (lv_at hl 0 rfl) ?_
  refine lv_iload_n hx hb dX12_learn_1 rfl (lv_at hl 1 rfl) ?_
  refine kVi0 (rest := []) F hl V [0, 1, 2, 3, 4, 5, 6, 7] [] [0, 1, 2, 3, 4, 5, 6, 7] (gX12 g a_this a_this_z a_this_saved a_this_text a_this_line a_this_aside a_this_read a_this_fewest thrown z saves saved length text many line aside isWord entries rdA fewest h) a_this 8 0 rfl rfl (kX12_isItem l g a_this a_this_z a_this_saved a_this_text a_this_line a_this_aside a_this_read a_this_fewest thrown z saves saved length text many line aside isWord entries rdA fewest h p1 _ hw) gX12_learn_X12_isItem rfl 1 rfl hdX12_isItem rfl rfl (fun _ => rfl) rfl rfl rfl (by decide) ⟨Nat.le_of_ble_eq_true rfl, Nat.le_of_ble_eq_true rfl⟩ ⟨Nat.le_of_ble_eq_true rfl, Nat.le_of_ble_eq_true rfl⟩ (Nat.le_of_ble_eq_true rfl) rfl dX12_learn_2 (fun r_2 H locs hw V => ?_)
  refine lv_if_eq (tgt := 16) hx hb dX12_learn_5 (by decide) (fun c_5 => ?_) (fun c_5 => ?_)
  · have hw := hw.1 c_5
    exact B16  thrown z saves saved many line V (lv_sub hl [0] rfl) hw
  · have hw := hw.2 c_5
    refine lv_aload_n hx hb dX12_learn_8 rfl (lv_at hl 0 rfl) ?_
    refine lv_iload_n hx hb dX12_learn_9 rfl (lv_at hl 2 rfl) ?_
    refine kVi0 (rest := []) F hl V [0, 1, 2, 3, 4, 5, 6, 7] [] [0, 1, 2, 3, 4, 5, 6, 7] (gX12 g a_this a_this_z a_this_saved a_this_text a_this_line a_this_aside a_this_read a_this_fewest thrown z saves saved length text many line aside isWord entries rdA fewest h) a_this 8 0 rfl rfl (kX12_isItem l g a_this a_this_z a_this_saved a_this_text a_this_line a_this_aside a_this_read a_this_fewest thrown z saves saved length text many line aside isWord entries rdA fewest h p2 _ hw) gX12_learn_X12_isItem rfl 1 rfl hdX12_isItem rfl rfl (fun _ => rfl) rfl rfl rfl (by decide) ⟨Nat.le_of_ble_eq_true rfl, Nat.le_of_ble_eq_true rfl⟩ ⟨Nat.le_of_ble_eq_true rfl, Nat.le_of_ble_eq_true rfl⟩ (Nat.le_of_ble_eq_true rfl) rfl dX12_learn_10 (fun r_10 H locs hw V => ?_)
    refine lv_if_ne (tgt := 23) hx hb dX12_learn_13 (by decide) (fun c_13 => ?_) (fun c_13 => ?_)
    · have hw := hw.1 c_13
      refine lv_iload_n hx hb dX12_learn_23 rfl (lv_at hl 1 rfl) ?_
      refine lv_iload_n hx hb dX12_learn_24 rfl (lv_at hl 2 rfl) ?_
      refine lv_icmp_gt (tgt := 49) hx hb dX12_learn_25 (by decide) (fun c_25 => ?_) (fun c_25 => ?_)
      · have hw := hw.1 c_25
        exact B49  thrown z saves saved many line V hl hw
      · have hw := hw.2 c_25
        refine lv_aload_n hx hb dX12_learn_28 rfl (lv_at hl 0 rfl) ?_
        refine lv_iload_n hx hb dX12_learn_29 rfl (lv_at hl 2 rfl) ?_
        refine lv_iconst (v := 1) hx hb dX12_learn_30 (by decide) ?_
        refine lv_iadd hx hb dX12_learn_31 ?_
        refine kVi0 (rest := []) F hl V [0, 1, 2, 3, 4, 5, 6, 7] [] [0, 1, 2, 3, 4, 5, 6, 7] (gX12 g a_this a_this_z a_this_saved a_this_text a_this_line a_this_aside a_this_read a_this_fewest thrown z saves saved length text many line aside isWord entries rdA fewest h) a_this 8 0 rfl rfl (kX12_strokesAhead l g a_this a_this_z a_this_saved a_this_text a_this_line a_this_aside a_this_read a_this_fewest thrown z saves saved length text many line aside isWord entries rdA fewest h (p2 + 1) _ hw) gX12_learn_X12_strokesAhead rfl 1 rfl hdX12_strokesAhead rfl rfl (fun _ => rfl) rfl rfl rfl (by decide) ⟨Nat.le_of_ble_eq_true rfl, Nat.le_of_ble_eq_true rfl⟩ ⟨Nat.le_of_ble_eq_true rfl, Nat.le_of_ble_eq_true rfl⟩ (Nat.le_of_ble_eq_true rfl) rfl dX12_learn_32 (fun r_32 H locs hw V => ?_)
        refine lv_aload_n hx hb dX12_learn_35 rfl (lv_at hl 0 rfl) ?_
        refine lv_iload_n hx hb dX12_learn_36 rfl (lv_at hl 1 rfl) ?_
        refine kVi0 (rest := [.int r_32]) F hl V [0, 1, 2, 3, 4, 5, 6, 7] [] [0, 1, 2, 3, 4, 5, 6, 7] (gX12 g a_this a_this_z a_this_saved a_this_text a_this_line a_this_aside a_this_read a_this_fewest thrown z saves saved length text many line aside isWord entries rdA fewest h) a_this 8 0 rfl rfl (kX12_strokesAhead l g a_this a_this_z a_this_saved a_this_text a_this_line a_this_aside a_this_read a_this_fewest thrown z saves saved length text many line aside isWord entries rdA fewest h p1 _ hw) gX12_learn_X12_strokesAhead rfl 1 rfl hdX12_strokesAhead rfl rfl (fun _ => rfl) rfl rfl rfl (by decide) ⟨Nat.le_of_ble_eq_true rfl, Nat.le_of_ble_eq_true rfl⟩ ⟨Nat.le_of_ble_eq_true rfl, Nat.le_of_ble_eq_true rfl⟩ (Nat.le_of_ble_eq_true rfl) rfl dX12_learn_37 (fun r_37 H locs hw V => ?_)
        refine lv_isub hx hb dX12_learn_40 ?_
        refine lv_iconst (v := 4) hx hb dX12_learn_41 (by decide) ?_
        refine lv_icmp_gt (tgt := 49) hx hb dX12_learn_42 (by decide) (fun c_42 => ?_) (fun c_42 => ?_)
        · have hw := hw.1 c_42
          exact B49  thrown z saves saved many line V hl hw
        · have hw := hw.2 c_42
          refine lv_iconst (v := 1) hx hb dX12_learn_45 (by decide) ?_
          refine lv_goto (tgt := 50) hx hb dX12_learn_46 (by decide) ?_
          exact B50  1 thrown z saves saved many line V hl hw
    · have hw := hw.2 c_13
      exact B16  thrown z saves saved many line V (lv_sub hl [0] rfl) hw
theorem hdX12_append : yX12_append.cls = RX12 ∧ yX12_append.cls ≠ "java/lang/invoke/MethodHandle" ∧ yX12_append.cls ≠ "java/lang/invoke/VarHandle" ∧ (parseMethodDescriptor yX12_append.desc).map (fun d => d.parameters.length) = some 1 := by decide +kernel
theorem fX12_append_121 : Cond.fieldLink RX12 121 RX12 "length" "I" ∈ wsX12_append := by decide +kernel
theorem iX12_append_X12 : ∀ w ∈ u_ws RX12 TX12 14, w ∈ wsX12_append := by decide +kernel
theorem fX12_append_31 : Cond.fieldLink RX12 31 RX12 "thrown" "I" ∈ wsX12_append := by decide +kernel
theorem fX12_append_16 : Cond.fieldLink RX12 16 RX12 "text" "[I" ∈ wsX12_append := by decide +kernel
def wX12_append_30 (p1 : Int32) (P : Int32 → Int32 → Int32 → (Nat → Int32) → Prop) (s1 : Int32) (thrown : Int32) (length : Int32) (text : Nat → Int32) : Prop := (s1 ≤ 0 → vp_in length 60 ∧ ∀ text_51 : Nat → Int32, text_51 = upd text length.toNatClampNeg p1 → ∀ length_59 : Int32, length_59 = (length + 1) → P length_59 s1 length_59 text_51) ∧ (¬ (s1 ≤ 0) → P 0 s1 length text)
def wX12_append (p1 : Int32) (P : Int32 → Int32 → Int32 → (Nat → Int32) → Prop) (thrown : Int32) (length : Int32) (text : Nat → Int32) : Prop := wX12_within p1 33 126 (fun r_6 => (¬ r_6 = 0 → (¬ length = 60 → wX12_append_30 p1 P 0 thrown length text) ∧ (length = 60 → wX12_append_30 p1 P 2 thrown length text)) ∧ (r_6 = 0 → wX12_append_30 p1 P 1 thrown length text))
set_option maxHeartbeats 4000000 in
set_option maxRecDepth 100000 in
theorem kX12_append (l : Launch) (g : kT) (a_this : Nat) (a_this_z : Nat) (a_this_saved : Nat) (a_this_text : Nat) (a_this_line : Nat) (a_this_aside : Nat) (a_this_read : Nat) (a_this_fewest : Nat) (thrown : Int32) (z : Nat → Int32) (saves : Int32) (saved : Nat → Int32) (length : Int32) (text : Nat → Int32) (many : Int32) (line : Nat → Int32) (aside : Nat → Int32) (isWord : Int32) (entries : Int32) (rdA : Nat → Int32) (fewest : Nat → Int32) (h : Int64) (p1 : Int32) (P : Int32 → Int32 → Int32 → (Nat → Int32) → Prop) (hw : wX12_append p1 P thrown length text) : Ki3 l g yX12_append wsX12_append 1 22 0 0 [.ref a_this, .int p1] (gX12 g a_this a_this_z a_this_saved a_this_text a_this_line a_this_aside a_this_read a_this_fewest thrown z saves saved length text many line aside isWord entries rdA fewest h) P (fun thrown length text => (gX12 g a_this a_this_z a_this_saved a_this_text a_this_line a_this_aside a_this_read a_this_fewest thrown z saves saved length text many line aside isWord entries rdA fewest h)) := by
  refine Ki3.mk (cc := cX12_append) (nL := 2) (ty := .int) (by decide +kernel) rfl (Nat.le_of_ble_eq_true rfl) ?_
  intro p e s m below meth c A Q ls F hl V ret
  have hx := F.x
  have hb := F.b
  have hl : lv_has ls 2 [(0, .ref a_this), (1, .int p1)] := hl
  have B30 :  ∀ {H : Heap} {locs : List Loc} {ls : Array Slot} (s1 : Int32) (thrown : Int32) (length : Int32) (text : Nat → Int32) (V : VW g A s.heap H locs (gX12 g a_this a_this_z a_this_saved a_this_text a_this_line a_this_aside a_this_read a_this_fewest thrown z saves saved length text many line aside isWord entries rdA fewest h)) (hl : lv_has ls 2 [(0, .ref a_this), (1, .int p1)]) (hw : wX12_append_30 p1 P s1 thrown length text), W p l e (kR 1 22 0 0) s m ([.ref a_this, .int p1] : List Value).toArray below meth c H locs 0 0 Q (F0 m 30 ls [.int s1, .ref a_this]) := by
    intro  H locs ls s1 thrown length text V hl hw
    refine kput F V 8 0 0 tyX12_ok nmX12 rfl rfl iX12_append_X12 fX12_append_31 (by decide) rfl rfl rfl rfl (Nat.le_of_ble_eq_true rfl) dX12_append_30 (fun H locs V => ?_)
    have V : VW g A s.heap H locs (gX12 g a_this a_this_z a_this_saved a_this_text a_this_line a_this_aside a_this_read a_this_fewest s1 z saves saved length text many line aside isWord entries rdA fewest h) := V
    refine lv_aload_n hx hb dX12_append_33 rfl (lv_at hl 0 rfl) ?_
    refine kget F V 8 0 0 rfl rfl iX12_append_X12 fX12_append_31 (by decide) rfl rfl dX12_append_34 ?_
    refine lv_if_le (tgt := 42) hx hb dX12_append_37 (by decide) (fun c_37 => ?_) (fun c_37 => ?_)
    · have hw := hw.1 c_37
      refine lv_aload_n hx hb dX12_append_42 rfl (lv_at hl 0 rfl) ?_
      refine kget F V 8 5 0 rfl rfl iX12_append_X12 fX12_append_16 (by decide) rfl rfl dX12_append_43 ?_
      refine lv_aload_n hx hb dX12_append_46 rfl (lv_at hl 0 rfl) ?_
      refine kget F V 8 4 0 rfl rfl iX12_append_X12 fX12_append_121 (by decide) rfl rfl dX12_append_47 ?_
      refine lv_iload_n hx hb dX12_append_50 rfl (lv_at hl 1 rfl) ?_
      refine kiast F V 3 rfl hw.1 dX12_append_51 (fun text_51 etext_51 H locs V => ?_)
      have hw := hw.2 text_51 etext_51
      have V : VW g A s.heap H locs (gX12 g a_this a_this_z a_this_saved a_this_text a_this_line a_this_aside a_this_read a_this_fewest s1 z saves saved length text_51 many line aside isWord entries rdA fewest h) := V
      refine lv_aload_n hx hb dX12_append_52 rfl (lv_at hl 0 rfl) ?_
      refine lv_dup hx hb dX12_append_53 rfl ?_
      refine kget F V 8 4 0 rfl rfl iX12_append_X12 fX12_append_121 (by decide) rfl rfl dX12_append_54 ?_
      refine lv_iconst (v := 1) hx hb dX12_append_57 (by decide) ?_
      refine lv_iadd hx hb dX12_append_58 ?_
      refine lv_topi (fun length_59 elength_59 => ?_)
      have hw := hw length_59 elength_59
      refine kput F V 8 4 0 tyX12_ok nmX12 rfl rfl iX12_append_X12 fX12_append_121 (by decide) rfl rfl rfl rfl (Nat.le_of_ble_eq_true rfl) dX12_append_59 (fun H locs V => ?_)
      have V : VW g A s.heap H locs (gX12 g a_this a_this_z a_this_saved a_this_text a_this_line a_this_aside a_this_read a_this_fewest s1 z saves saved length_59 text_51 many line aside isWord entries rdA fewest h) := V
      refine lv_aload_n hx hb dX12_append_62 rfl (lv_at hl 0 rfl) ?_
      refine kget F V 8 4 0 rfl rfl iX12_append_X12 fX12_append_121 (by decide) rfl rfl dX12_append_63 ?_
      exact ret _ _ _ _ _ _ _ _ rfl dX12_append_66 V hw
    · have hw := hw.2 c_37
      refine lv_iconst (v := 0) hx hb dX12_append_40 (by decide) ?_
      exact ret _ _ _ _ _ _ _ _ rfl dX12_append_41 V hw
  refine lv_aload_n hx hb dX12_append_0 rfl (lv_at hl 0 rfl) ?_
  refine lv_iload_n hx hb dX12_append_1 rfl (lv_at hl 1 rfl) ?_
  refine lv_bipush (v := 33) hx hb dX12_append_2 (by decide) ?_
  refine lv_bipush (v := 126) hx hb dX12_append_4 (by decide) ?_
  refine kSi0n (rest := [.ref a_this]) F hl V (kX12_within l g p1 33 126 _ hw) gX12_append_X12_within rfl 3 rfl hdX12_within ⟨Nat.le_of_ble_eq_true rfl, Nat.le_of_ble_eq_true rfl⟩ ⟨Nat.le_of_ble_eq_true rfl, Nat.le_of_ble_eq_true rfl⟩ (Nat.le_of_ble_eq_true rfl) rfl dX12_append_6 (fun r_6 H locs hw V => ?_)
  refine lv_if_ne (tgt := 16) hx hb dX12_append_9 (by decide) (fun c_9 => ?_) (fun c_9 => ?_)
  · have hw := hw.1 c_9
    refine lv_aload_n hx hb dX12_append_16 rfl (lv_at hl 0 rfl) ?_
    refine kget F V 8 4 0 rfl rfl iX12_append_X12 fX12_append_121 (by decide) rfl rfl dX12_append_17 ?_
    refine lv_bipush (v := 60) hx hb dX12_append_20 (by decide) ?_
    refine lv_icmp_ne (tgt := 29) hx hb dX12_append_22 (by decide) (fun c_22 => ?_) (fun c_22 => ?_)
    · have hw := hw.1 c_22
      refine lv_iconst (v := 0) hx hb dX12_append_29 (by decide) ?_
      exact B30  0 thrown length text V hl hw
    · have hw := hw.2 c_22
      refine lv_iconst (v := 2) hx hb dX12_append_25 (by decide) ?_
      refine lv_goto (tgt := 30) hx hb dX12_append_26 (by decide) ?_
      exact B30  2 thrown length text V hl hw
  · have hw := hw.2 c_9
    refine lv_iconst (v := 1) hx hb dX12_append_12 (by decide) ?_
    refine lv_goto (tgt := 30) hx hb dX12_append_13 (by decide) ?_
    exact B30  1 thrown length text V hl hw
theorem hdX12_clearBuffer : yX12_clearBuffer.cls = RX12 ∧ yX12_clearBuffer.cls ≠ "java/lang/invoke/MethodHandle" ∧ yX12_clearBuffer.cls ≠ "java/lang/invoke/VarHandle" ∧ (parseMethodDescriptor yX12_clearBuffer.desc).map (fun d => d.parameters.length) = some 0 := by decide +kernel
theorem fX12_clearBuffer_31 : Cond.fieldLink RX12 31 RX12 "thrown" "I" ∈ wsX12_clearBuffer := by decide +kernel
theorem iX12_clearBuffer_X12 : ∀ w ∈ u_ws RX12 TX12 14, w ∈ wsX12_clearBuffer := by decide +kernel
theorem fX12_clearBuffer_121 : Cond.fieldLink RX12 121 RX12 "length" "I" ∈ wsX12_clearBuffer := by decide +kernel
def wX12_clearBuffer (P : Int32 → Int32 → Int32 → Prop) (thrown : Int32) (length : Int32) : Prop := P length 0 0
set_option maxHeartbeats 4000000 in
set_option maxRecDepth 100000 in
theorem kX12_clearBuffer (l : Launch) (g : kT) (a_this : Nat) (a_this_z : Nat) (a_this_saved : Nat) (a_this_text : Nat) (a_this_line : Nat) (a_this_aside : Nat) (a_this_read : Nat) (a_this_fewest : Nat) (thrown : Int32) (z : Nat → Int32) (saves : Int32) (saved : Nat → Int32) (length : Int32) (text : Nat → Int32) (many : Int32) (line : Nat → Int32) (aside : Nat → Int32) (isWord : Int32) (entries : Int32) (rdA : Nat → Int32) (fewest : Nat → Int32) (h : Int64) (P : Int32 → Int32 → Int32 → Prop) (hw : wX12_clearBuffer P thrown length) : Ki2 l g yX12_clearBuffer wsX12_clearBuffer 0 0 0 0 [.ref a_this] (gX12 g a_this a_this_z a_this_saved a_this_text a_this_line a_this_aside a_this_read a_this_fewest thrown z saves saved length text many line aside isWord entries rdA fewest h) P (fun thrown length => (gX12 g a_this a_this_z a_this_saved a_this_text a_this_line a_this_aside a_this_read a_this_fewest thrown z saves saved length text many line aside isWord entries rdA fewest h)) := by
  refine Ki2.mk (cc := cX12_clearBuffer) (nL := 2) (ty := .int) (by decide +kernel) rfl (Nat.le_of_ble_eq_true rfl) ?_
  intro p e s m below meth c A Q ls F hl V ret
  have hx := F.x
  have hb := F.b
  have hl : lv_has ls 2 [(0, .ref a_this)] := hl
  refine lv_aload_n hx hb dX12_clearBuffer_0 rfl (lv_at hl 0 rfl) ?_
  refine lv_iconst (v := 0) hx hb dX12_clearBuffer_1 (by decide) ?_
  refine kput F V 8 0 0 tyX12_ok nmX12 rfl rfl iX12_clearBuffer_X12 fX12_clearBuffer_31 (by decide) rfl rfl rfl rfl (Nat.le_of_ble_eq_true rfl) dX12_clearBuffer_2 (fun H locs V => ?_)
  have V : VW g A s.heap H locs (gX12 g a_this a_this_z a_this_saved a_this_text a_this_line a_this_aside a_this_read a_this_fewest 0 z saves saved length text many line aside isWord entries rdA fewest h) := V
  refine lv_aload_n hx hb dX12_clearBuffer_5 rfl (lv_at hl 0 rfl) ?_
  refine kget F V 8 4 0 rfl rfl iX12_clearBuffer_X12 fX12_clearBuffer_121 (by decide) rfl rfl dX12_clearBuffer_6 ?_
  refine lv_istore_n (lv' := [(1, .int length), (0, .ref a_this)]) hx hb dX12_clearBuffer_9 rfl hl (by decide) rfl (fun ls hl => ?_)
  refine lv_aload_n hx hb dX12_clearBuffer_10 rfl (lv_at hl 1 rfl) ?_
  refine lv_iconst (v := 0) hx hb dX12_clearBuffer_11 (by decide) ?_
  refine kput F V 8 4 0 tyX12_ok nmX12 rfl rfl iX12_clearBuffer_X12 fX12_clearBuffer_121 (by decide) rfl rfl rfl rfl (Nat.le_of_ble_eq_true rfl) dX12_clearBuffer_12 (fun H locs V => ?_)
  have V : VW g A s.heap H locs (gX12 g a_this a_this_z a_this_saved a_this_text a_this_line a_this_aside a_this_read a_this_fewest 0 z saves saved 0 text many line aside isWord entries rdA fewest h) := V
  refine lv_iload_n hx hb dX12_clearBuffer_15 rfl (lv_at hl 0 rfl) ?_
  exact ret _ _ _ _ _ _ _ rfl dX12_clearBuffer_16 V hw
theorem hdX12_beginEntry : yX12_beginEntry.cls = RX12 ∧ yX12_beginEntry.cls ≠ "java/lang/invoke/MethodHandle" ∧ yX12_beginEntry.cls ≠ "java/lang/invoke/VarHandle" ∧ (parseMethodDescriptor yX12_beginEntry.desc).map (fun d => d.parameters.length) = some 0 := by decide +kernel
theorem fX12_beginEntry_124 : Cond.fieldLink RX12 124 RX12 "isWord" "Z" ∈ wsX12_beginEntry := by decide +kernel
theorem iX12_beginEntry_X12 : ∀ w ∈ u_ws RX12 TX12 14, w ∈ wsX12_beginEntry := by decide +kernel
theorem fX12_beginEntry_25 : Cond.fieldLink RX12 25 RX12 "read" "[I" ∈ wsX12_beginEntry := by decide +kernel
theorem fX12_beginEntry_128 : Cond.fieldLink RX12 128 RX12 "entries" "I" ∈ wsX12_beginEntry := by decide +kernel
def wX12_beginEntry_7 (entries : Int32) (P : Int32 → (Nat → Int32) → Prop) : Nat → Int32 → Int32 → (Nat → Int32) → Prop
  | 0, _, _, _ => False
  | n + 1, v1, isWord, rdA => (14 ≤ v1 → P isWord rdA) ∧ (¬ (14 ≤ v1) → vp_in ((14 * entries) + v1) 308 ∧ ∀ rdA_27 : Nat → Int32, rdA_27 = upd rdA ((14 * entries) + v1).toNatClampNeg 0 → (wX12_beginEntry_7 entries P n) (v1 + 1) isWord rdA_27)
def wX12_beginEntry (entries : Int32) (P : Int32 → (Nat → Int32) → Prop) (isWord : Int32) (rdA : Nat → Int32) : Prop := ∃ n_7, wX12_beginEntry_7 entries P n_7 0 0 rdA
set_option maxHeartbeats 4000000 in
set_option maxRecDepth 100000 in
theorem kX12_beginEntry (l : Launch) (g : kT) (a_this : Nat) (a_this_z : Nat) (a_this_saved : Nat) (a_this_text : Nat) (a_this_line : Nat) (a_this_aside : Nat) (a_this_read : Nat) (a_this_fewest : Nat) (thrown : Int32) (z : Nat → Int32) (saves : Int32) (saved : Nat → Int32) (length : Int32) (text : Nat → Int32) (many : Int32) (line : Nat → Int32) (aside : Nat → Int32) (isWord : Int32) (entries : Int32) (rdA : Nat → Int32) (fewest : Nat → Int32) (h : Int64) (P : Int32 → (Nat → Int32) → Prop) (hw : wX12_beginEntry entries P isWord rdA) : Kv2 l g yX12_beginEntry wsX12_beginEntry 0 0 0 0 [.ref a_this] (gX12 g a_this a_this_z a_this_saved a_this_text a_this_line a_this_aside a_this_read a_this_fewest thrown z saves saved length text many line aside isWord entries rdA fewest h) P (fun isWord rdA => (gX12 g a_this a_this_z a_this_saved a_this_text a_this_line a_this_aside a_this_read a_this_fewest thrown z saves saved length text many line aside isWord entries rdA fewest h)) := by
  refine Kv2.mk (cc := cX12_beginEntry) (nL := 2) (by decide +kernel) rfl (Nat.le_of_ble_eq_true rfl) ?_
  intro p e s m below meth c A Q ls F hl V ret _
  have hx := F.x
  have hb := F.b
  have hl : lv_has ls 2 [(0, .ref a_this)] := hl
  have B7 :  ∀ (n : Nat), ∀ {H : Heap} {locs : List Loc} {ls : Array Slot} (v1 : Int32) (isWord : Int32) (rdA : Nat → Int32) (V : VW g A s.heap H locs (gX12 g a_this a_this_z a_this_saved a_this_text a_this_line a_this_aside a_this_read a_this_fewest thrown z saves saved length text many line aside isWord entries rdA fewest h)) (hl : lv_has ls 2 [(0, .ref a_this), (1, .int v1)]) (hw : wX12_beginEntry_7 entries P n v1 isWord rdA), W p l e (kR 0 0 0 0) s m ([.ref a_this] : List Value).toArray below meth c H locs 0 0 Q (F0 m 7 ls []) := by
    intro n
    induction n with
    | zero => intro _ _ _ _ _ _ V hl hw; exact hw.elim
    | succ n ih =>
      intro H locs ls v1 isWord rdA V hl hw
      refine lv_iload_n hx hb dX12_beginEntry_7 rfl (lv_at hl 1 rfl) ?_
      refine lv_bipush (v := 14) hx hb dX12_beginEntry_8 (by decide) ?_
      refine lv_icmp_ge (tgt := 34) hx hb dX12_beginEntry_10 (by decide) (fun c_10 => ?_) (fun c_10 => ?_)
      · have hw := hw.1 c_10
        exact ret _ _ _ _ _ _ dX12_beginEntry_34 V hw
      · have hw := hw.2 c_10
        refine lv_aload_n hx hb dX12_beginEntry_13 rfl (lv_at hl 0 rfl) ?_
        refine kget F V 8 11 0 rfl rfl iX12_beginEntry_X12 fX12_beginEntry_25 (by decide) rfl rfl dX12_beginEntry_14 ?_
        refine lv_bipush (v := 14) hx hb dX12_beginEntry_17 (by decide) ?_
        refine lv_aload_n hx hb dX12_beginEntry_19 rfl (lv_at hl 0 rfl) ?_
        refine kget F V 8 10 0 rfl rfl iX12_beginEntry_X12 fX12_beginEntry_128 (by decide) rfl rfl dX12_beginEntry_20 ?_
        refine lv_imul hx hb dX12_beginEntry_23 ?_
        refine lv_iload_n hx hb dX12_beginEntry_24 rfl (lv_at hl 1 rfl) ?_
        refine lv_iadd hx hb dX12_beginEntry_25 ?_
        refine lv_iconst (v := 0) hx hb dX12_beginEntry_26 (by decide) ?_
        refine kiast F V 6 rfl hw.1 dX12_beginEntry_27 (fun rdA_27 erdA_27 H locs V => ?_)
        have hw := hw.2 rdA_27 erdA_27
        have V : VW g A s.heap H locs (gX12 g a_this a_this_z a_this_saved a_this_text a_this_line a_this_aside a_this_read a_this_fewest thrown z saves saved length text many line aside isWord entries rdA_27 fewest h) := V
        refine lv_iinc (v := v1 + 1) (lv' := [(1, .int (v1 + 1)), (0, .ref a_this)]) hx hb dX12_beginEntry_28 hl (k := 1) rfl rfl (by decide) rfl (fun ls hl => ?_)
        refine lv_goto (tgt := 7) hx hb dX12_beginEntry_31 (by decide) ?_
        exact ih (v1 + 1) isWord rdA_27 V (lv_sub hl [1, 0] rfl) hw
  refine lv_aload_n hx hb dX12_beginEntry_0 rfl (lv_at hl 0 rfl) ?_
  refine lv_iconst (v := 0) hx hb dX12_beginEntry_1 (by decide) ?_
  refine kput F V 8 9 0 tyX12_ok nmX12 rfl rfl iX12_beginEntry_X12 fX12_beginEntry_124 (by decide) rfl rfl rfl rfl (Nat.le_of_ble_eq_true rfl) dX12_beginEntry_2 (fun H locs V => ?_)
  have V : VW g A s.heap H locs (gX12 g a_this a_this_z a_this_saved a_this_text a_this_line a_this_aside a_this_read a_this_fewest thrown z saves saved length text many line aside 0 entries rdA fewest h) := V
  refine lv_iconst (v := 0) hx hb dX12_beginEntry_5 (by decide) ?_
  refine lv_istore_n (lv' := [(1, .int 0), (0, .ref a_this)]) hx hb dX12_beginEntry_6 rfl hl (by decide) rfl (fun ls hl => ?_)
  obtain ⟨n_7, hw⟩ := hw
  exact B7  n_7 0 0 rdA V (lv_sub hl [1, 0] rfl) hw
theorem hdX12_keyOf : yX12_keyOf.cls ≠ "java/lang/invoke/MethodHandle" ∧ yX12_keyOf.cls ≠ "java/lang/invoke/VarHandle" ∧ (parseMethodDescriptor yX12_keyOf.desc).map (fun d => d.parameters.length) = some 1 := by decide +kernel
def wX12_keyOf_23 (p1 : Int32) (K4 : Int32 → Int32 → Prop) (P : Int32 → Prop) (v2 : Int32) (s0 : Int32) : Prop := K4 s0 (v2 + 1)
def wX12_keyOf_4 (p1 : Int32) (P : Int32 → Prop) : Nat → Int32 → Int32 → Prop
  | 0, _, _ => False
  | n + 1, v1, v2 => (12 ≤ v2 → P v1) ∧ (¬ (12 ≤ v2) → wX12_keyLetter v2 (fun r_11 => (¬ r_11 = p1 → wX12_keyOf_23 p1 (wX12_keyOf_4 p1 P n) P v2 v1) ∧ (r_11 = p1 → wX12_keyOf_23 p1 (wX12_keyOf_4 p1 P n) P v2 v2)))
def wX12_keyOf (p1 : Int32) (P : Int32 → Prop) : Prop := ∃ n_4, wX12_keyOf_4 p1 P n_4 (-1) 0
set_option maxHeartbeats 4000000 in
set_option maxRecDepth 100000 in
theorem kX12_keyOf (l : Launch) (g : kT) (p1 : Int32) (P : Int32 → Prop) (hw : wX12_keyOf p1 P) : Ki0 l g yX12_keyOf wsX12_keyOf 1 20 0 0 [.int p1] [] P [] := by
  refine Ki0.mk (cc := cX12_keyOf) (nL := 3) (ty := .int) (by decide +kernel) rfl (Nat.le_of_ble_eq_true rfl) ?_
  intro p e s m below meth c A Q ls F hl V ret
  have hx := F.x
  have hb := F.b
  have hl : lv_has ls 3 [(0, .int p1)] := hl
  have B23 : ∀ (K4 : Int32 → Int32 → Prop) (k4 : ∀ {H : Heap} {locs : List Loc} {ls : Array Slot} (v1 : Int32) (v2 : Int32), VW g A s.heap H locs [] → lv_has ls 3 [(0, .int p1), (1, .int v1), (2, .int v2)] → K4 v1 v2 → W p l e (kR 1 20 0 0) s m ([.int p1] : List Value).toArray below meth c H locs 0 0 Q (F0 m 4 ls [])), ∀ {H : Heap} {locs : List Loc} {ls : Array Slot} (v2 : Int32) (s0 : Int32) (V : VW g A s.heap H locs []) (hl : lv_has ls 3 [(0, .int p1), (2, .int v2)]) (hw : wX12_keyOf_23 p1 K4 P v2 s0), W p l e (kR 1 20 0 0) s m ([.int p1] : List Value).toArray below meth c H locs 0 0 Q (F0 m 23 ls [.int s0]) := by
    intro K4 k4 H locs ls v2 s0 V hl hw
    refine lv_istore_n (lv' := [(1, .int s0), (0, .int p1), (2, .int v2)]) hx hb dX12_keyOf_23 rfl hl (by decide) rfl (fun ls hl => ?_)
    refine lv_iinc (v := v2 + 1) (lv' := [(2, .int (v2 + 1)), (1, .int s0), (0, .int p1)]) hx hb dX12_keyOf_24 hl (k := 2) rfl rfl (by decide) rfl (fun ls hl => ?_)
    refine lv_goto (tgt := 4) hx hb dX12_keyOf_27 (by decide) ?_
    exact k4 s0 (v2 + 1) V (lv_sub hl [2, 1, 0] rfl) hw
  have B4 :  ∀ (n : Nat), ∀ {H : Heap} {locs : List Loc} {ls : Array Slot} (v1 : Int32) (v2 : Int32) (V : VW g A s.heap H locs []) (hl : lv_has ls 3 [(0, .int p1), (1, .int v1), (2, .int v2)]) (hw : wX12_keyOf_4 p1 P n v1 v2), W p l e (kR 1 20 0 0) s m ([.int p1] : List Value).toArray below meth c H locs 0 0 Q (F0 m 4 ls []) := by
    intro n
    induction n with
    | zero => intro _ _ _ _ _ V hl hw; exact hw.elim
    | succ n ih =>
      intro H locs ls v1 v2 V hl hw
      refine lv_iload_n hx hb dX12_keyOf_4 rfl (lv_at hl 2 rfl) ?_
      refine lv_bipush (v := 12) hx hb dX12_keyOf_5 (by decide) ?_
      refine lv_icmp_ge (tgt := 30) hx hb dX12_keyOf_7 (by decide) (fun c_7 => ?_) (fun c_7 => ?_)
      · have hw := hw.1 c_7
        refine lv_iload_n hx hb dX12_keyOf_30 rfl (lv_at hl 1 rfl) ?_
        exact ret _ _ _ _ _ rfl dX12_keyOf_31 V hw
      · have hw := hw.2 c_7
        refine lv_iload_n hx hb dX12_keyOf_10 rfl (lv_at hl 2 rfl) ?_
        refine kSi0n (rest := []) F hl V (kX12_keyLetter l g v2 _ hw) gX12_keyOf_X12_keyLetter rfl 1 rfl hdX12_keyLetter ⟨Nat.le_of_ble_eq_true rfl, Nat.le_of_ble_eq_true rfl⟩ ⟨Nat.le_of_ble_eq_true rfl, Nat.le_of_ble_eq_true rfl⟩ (Nat.le_of_ble_eq_true rfl) rfl dX12_keyOf_11 (fun r_11 H locs hw V => ?_)
        refine lv_iload_n hx hb dX12_keyOf_14 rfl (lv_at hl 0 rfl) ?_
        refine lv_icmp_ne (tgt := 22) hx hb dX12_keyOf_15 (by decide) (fun c_15 => ?_) (fun c_15 => ?_)
        · have hw := hw.1 c_15
          refine lv_iload_n hx hb dX12_keyOf_22 rfl (lv_at hl 1 rfl) ?_
          exact B23 (wX12_keyOf_4 p1 P n) ih v2 v1 V (lv_sub hl [0, 2] rfl) hw
        · have hw := hw.2 c_15
          refine lv_iload_n hx hb dX12_keyOf_18 rfl (lv_at hl 2 rfl) ?_
          refine lv_goto (tgt := 23) hx hb dX12_keyOf_19 (by decide) ?_
          exact B23 (wX12_keyOf_4 p1 P n) ih v2 v2 V (lv_sub hl [0, 2] rfl) hw
  refine lv_iconst (v := (-1)) hx hb dX12_keyOf_0 (by decide) ?_
  refine lv_istore_n (lv' := [(1, .int (-1)), (0, .int p1)]) hx hb dX12_keyOf_1 rfl hl (by decide) rfl (fun ls hl => ?_)
  refine lv_iconst (v := 0) hx hb dX12_keyOf_2 (by decide) ?_
  refine lv_istore_n (lv' := [(2, .int 0), (1, .int (-1)), (0, .int p1)]) hx hb dX12_keyOf_3 rfl hl (by decide) rfl (fun ls hl => ?_)
  obtain ⟨n_4, hw⟩ := hw
  exact B4  n_4 (-1) 0 V (lv_sub hl [2, 1, 0] rfl) hw
theorem hdX12_takesOutline : yX12_takesOutline.cls = RX12 ∧ yX12_takesOutline.cls ≠ "java/lang/invoke/MethodHandle" ∧ yX12_takesOutline.cls ≠ "java/lang/invoke/VarHandle" ∧ (parseMethodDescriptor yX12_takesOutline.desc).map (fun d => d.parameters.length) = some 1 := by decide +kernel
theorem fX12_takesOutline_128 : Cond.fieldLink RX12 128 RX12 "entries" "I" ∈ wsX12_takesOutline := by decide +kernel
theorem iX12_takesOutline_X12 : ∀ w ∈ u_ws RX12 TX12 14, w ∈ wsX12_takesOutline := by decide +kernel
theorem fX12_takesOutline_25 : Cond.fieldLink RX12 25 RX12 "read" "[I" ∈ wsX12_takesOutline := by decide +kernel
theorem fX12_takesOutline_124 : Cond.fieldLink RX12 124 RX12 "isWord" "Z" ∈ wsX12_takesOutline := by decide +kernel
def wX12_takesOutline_132 (entries : Int32) (p1 : Int32) (P : Int32 → Int32 → (Nat → Int32) → Prop) (v5 : Int32) (s1 : Int32) (isWord : Int32) (rdA : Nat → Int32) : Prop := (s1 = 0 ∨ s1 = 1) ∧ (v5 = 0 ∨ v5 = 1) ∧ P v5 s1 rdA
def wX12_takesOutline_131 (entries : Int32) (p1 : Int32) (P : Int32 → Int32 → (Nat → Int32) → Prop) (v5 : Int32) (isWord : Int32) (rdA : Nat → Int32) : Prop := wX12_takesOutline_132 entries p1 P v5 0 isWord rdA
def wX12_takesOutline_113 (entries : Int32) (p1 : Int32) (P : Int32 → Int32 → (Nat → Int32) → Prop) (v5 : Int32) (s1 : Int32) (s2 : Int32) (s3 : Int32) (isWord : Int32) (rdA : Nat → Int32) : Prop := vp_in s1 308 ∧ ∀ rdA_114 : Nat → Int32, rdA_114 = upd rdA s1.toNatClampNeg (s2 + s3) → (v5 = 0 → wX12_takesOutline_131 entries p1 P v5 isWord rdA_114) ∧ (¬ (v5 = 0) → (¬ p1 = 61 → wX12_takesOutline_131 entries p1 P v5 isWord rdA_114) ∧ (p1 = 61 → wX12_takesOutline_132 entries p1 P v5 1 isWord rdA_114))
def wX12_takesOutline_94 (entries : Int32) (p1 : Int32) (P : Int32 → Int32 → (Nat → Int32) → Prop) (v2 : Int32) (s0 : Int32) (isWord : Int32) (rdA : Nat → Int32) : Prop := vp_in v2 308 ∧ (s0 = 0 → wX12_takesOutline_113 entries p1 P s0 v2 (rdA v2.toNatClampNeg) 0 isWord rdA) ∧ (¬ (s0 = 0) → wX12_takesOutline_113 entries p1 P s0 v2 (rdA v2.toNatClampNeg) 1 isWord rdA)
def wX12_takesOutline_93 (entries : Int32) (p1 : Int32) (P : Int32 → Int32 → (Nat → Int32) → Prop) (v2 : Int32) (isWord : Int32) (rdA : Nat → Int32) : Prop := wX12_takesOutline_94 entries p1 P v2 0 isWord rdA
def wX12_takesOutline_89 (entries : Int32) (p1 : Int32) (P : Int32 → Int32 → (Nat → Int32) → Prop) (v2 : Int32) (isWord : Int32) (rdA : Nat → Int32) : Prop := wX12_takesOutline_94 entries p1 P v2 1 isWord rdA
def wX12_takesOutline_58 (entries : Int32) (p1 : Int32) (P : Int32 → Int32 → (Nat → Int32) → Prop) (v2 : Int32) (v3 : Int32) (isWord : Int32) (rdA : Nat → Int32) : Prop := vp_in v3 308 ∧ ((rdA v3.toNatClampNeg) ≤ 0 → wX12_takesOutline_93 entries p1 P v2 isWord rdA) ∧ (¬ ((rdA v3.toNatClampNeg) ≤ 0) → (p1 = 61 → wX12_takesOutline_89 entries p1 P v2 isWord rdA) ∧ (¬ (p1 = 61) → (¬ p1 = 47 → wX12_takesOutline_93 entries p1 P v2 isWord rdA) ∧ (p1 = 47 → vp_in v2 308 ∧ (3 ≤ (rdA v2.toNatClampNeg) → wX12_takesOutline_93 entries p1 P v2 isWord rdA) ∧ (¬ (3 ≤ (rdA v2.toNatClampNeg)) → wX12_takesOutline_89 entries p1 P v2 isWord rdA))))
def wX12_takesOutline (entries : Int32) (p1 : Int32) (P : Int32 → Int32 → (Nat → Int32) → Prop) (isWord : Int32) (rdA : Nat → Int32) : Prop := ∀ v2_7 : Int32, v2_7 = (14 * entries) → vp_in v2_7 308 ∧ ∀ v3_18 : Int32, v3_18 = ((v2_7 + 1) + (rdA v2_7.toNatClampNeg)) → wX12_keyOf p1 (fun r_20 => (r_20 = (-1) → wX12_takesOutline_58 entries p1 P v2_7 v3_18 isWord rdA) ∧ (¬ (r_20 = (-1)) → vp_in v3_18 308 ∧ (¬ ((rdA v3_18.toNatClampNeg) >>> (r_20 &&& 31)) = 0 → wX12_takesOutline_58 entries p1 P v2_7 v3_18 isWord rdA) ∧ (((rdA v3_18.toNatClampNeg) >>> (r_20 &&& 31)) = 0 → vp_in v3_18 308 ∧ vp_in v3_18 308 ∧ ∀ rdA_55 : Nat → Int32, rdA_55 = upd rdA v3_18.toNatClampNeg ((rdA v3_18.toNatClampNeg) ||| (1 <<< (r_20 &&& 31))) → P 1 isWord rdA_55)))
set_option maxHeartbeats 4000000 in
set_option maxRecDepth 100000 in
theorem kX12_takesOutline (l : Launch) (g : kT) (a_this : Nat) (a_this_z : Nat) (a_this_saved : Nat) (a_this_text : Nat) (a_this_line : Nat) (a_this_aside : Nat) (a_this_read : Nat) (a_this_fewest : Nat) (thrown : Int32) (z : Nat → Int32) (saves : Int32) (saved : Nat → Int32) (length : Int32) (text : Nat → Int32) (many : Int32) (line : Nat → Int32) (aside : Nat → Int32) (isWord : Int32) (entries : Int32) (rdA : Nat → Int32) (fewest : Nat → Int32) (h : Int64) (p1 : Int32) (P : Int32 → Int32 → (Nat → Int32) → Prop) (hw : wX12_takesOutline entries p1 P isWord rdA) : Ki2 l g yX12_takesOutline wsX12_takesOutline 2 42 0 0 [.ref a_this, .int p1] (gX12 g a_this a_this_z a_this_saved a_this_text a_this_line a_this_aside a_this_read a_this_fewest thrown z saves saved length text many line aside isWord entries rdA fewest h) P (fun isWord rdA => (gX12 g a_this a_this_z a_this_saved a_this_text a_this_line a_this_aside a_this_read a_this_fewest thrown z saves saved length text many line aside isWord entries rdA fewest h)) := by
  refine Ki2.mk (cc := cX12_takesOutline) (nL := 6) (ty := .boolean) (by decide +kernel) rfl (Nat.le_of_ble_eq_true rfl) ?_
  intro p e s m below meth c A Q ls F hl V ret
  have hx := F.x
  have hb := F.b
  have hl : lv_has ls 6 [(0, .ref a_this), (1, .int p1)] := hl
  have B132 :  ∀ {H : Heap} {locs : List Loc} {ls : Array Slot} (v5 : Int32) (s1 : Int32) (isWord : Int32) (rdA : Nat → Int32) (V : VW g A s.heap H locs (gX12 g a_this a_this_z a_this_saved a_this_text a_this_line a_this_aside a_this_read a_this_fewest thrown z saves saved length text many line aside isWord entries rdA fewest h)) (hl : lv_has ls 6 [(5, .int v5)]) (hw : wX12_takesOutline_132 entries p1 P v5 s1 isWord rdA), W p l e (kR 2 42 0 0) s m ([.ref a_this, .int p1] : List Value).toArray below meth c H locs 0 0 Q (F0 m 132 ls [.int s1, .ref a_this]) := by
    intro  H locs ls v5 s1 isWord rdA V hl hw
    refine kput F V 8 9 0 tyX12_ok nmX12 rfl rfl iX12_takesOutline_X12 fX12_takesOutline_124 (by decide) rfl rfl (k01n hw.1) (k01f hw.1) (Nat.le_of_ble_eq_true rfl) dX12_takesOutline_132 (fun H locs V => ?_)
    have hw := hw.2
    have V : VW g A s.heap H locs (gX12 g a_this a_this_z a_this_saved a_this_text a_this_line a_this_aside a_this_read a_this_fewest thrown z saves saved length text many line aside s1 entries rdA fewest h) := V
    refine lv_iload hx hb dX12_takesOutline_135 (lv_at hl 0 rfl) ?_
    exact ret _ _ _ _ _ _ _ (k01n hw.1) dX12_takesOutline_137 V hw.2
  have B131 :  ∀ {H : Heap} {locs : List Loc} {ls : Array Slot} (v5 : Int32) (isWord : Int32) (rdA : Nat → Int32) (V : VW g A s.heap H locs (gX12 g a_this a_this_z a_this_saved a_this_text a_this_line a_this_aside a_this_read a_this_fewest thrown z saves saved length text many line aside isWord entries rdA fewest h)) (hl : lv_has ls 6 [(5, .int v5)]) (hw : wX12_takesOutline_131 entries p1 P v5 isWord rdA), W p l e (kR 2 42 0 0) s m ([.ref a_this, .int p1] : List Value).toArray below meth c H locs 0 0 Q (F0 m 131 ls [.ref a_this]) := by
    intro  H locs ls v5 isWord rdA V hl hw
    refine lv_iconst (v := 0) hx hb dX12_takesOutline_131 (by decide) ?_
    exact B132  v5 0 isWord rdA V hl hw
  have B113 :  ∀ {H : Heap} {locs : List Loc} {ls : Array Slot} (v5 : Int32) (s1 : Int32) (s2 : Int32) (s3 : Int32) (isWord : Int32) (rdA : Nat → Int32) (V : VW g A s.heap H locs (gX12 g a_this a_this_z a_this_saved a_this_text a_this_line a_this_aside a_this_read a_this_fewest thrown z saves saved length text many line aside isWord entries rdA fewest h)) (hl : lv_has ls 6 [(0, .ref a_this), (1, .int p1), (5, .int v5)]) (hw : wX12_takesOutline_113 entries p1 P v5 s1 s2 s3 isWord rdA), W p l e (kR 2 42 0 0) s m ([.ref a_this, .int p1] : List Value).toArray below meth c H locs 0 0 Q (F0 m 113 ls [.int s3, .int s2, .int s1, .ref a_this_read]) := by
    intro  H locs ls v5 s1 s2 s3 isWord rdA V hl hw
    refine lv_iadd hx hb dX12_takesOutline_113 ?_
    refine kiast F V 6 rfl hw.1 dX12_takesOutline_114 (fun rdA_114 erdA_114 H locs V => ?_)
    have hw := hw.2 rdA_114 erdA_114
    have V : VW g A s.heap H locs (gX12 g a_this a_this_z a_this_saved a_this_text a_this_line a_this_aside a_this_read a_this_fewest thrown z saves saved length text many line aside isWord entries rdA_114 fewest h) := V
    refine lv_aload_n hx hb dX12_takesOutline_115 rfl (lv_at hl 0 rfl) ?_
    refine lv_iload hx hb dX12_takesOutline_116 (lv_at hl 2 rfl) ?_
    refine lv_if_eq (tgt := 131) hx hb dX12_takesOutline_118 (by decide) (fun c_118 => ?_) (fun c_118 => ?_)
    · have hw := hw.1 c_118
      exact B131  v5 isWord rdA_114 V (lv_sub hl [2] rfl) hw
    · have hw := hw.2 c_118
      refine lv_iload_n hx hb dX12_takesOutline_121 rfl (lv_at hl 1 rfl) ?_
      refine lv_bipush (v := 61) hx hb dX12_takesOutline_122 (by decide) ?_
      refine lv_icmp_ne (tgt := 131) hx hb dX12_takesOutline_124 (by decide) (fun c_124 => ?_) (fun c_124 => ?_)
      · have hw := hw.1 c_124
        exact B131  v5 isWord rdA_114 V (lv_sub hl [2] rfl) hw
      · have hw := hw.2 c_124
        refine lv_iconst (v := 1) hx hb dX12_takesOutline_127 (by decide) ?_
        refine lv_goto (tgt := 132) hx hb dX12_takesOutline_128 (by decide) ?_
        exact B132  v5 1 isWord rdA_114 V (lv_sub hl [2] rfl) hw
  have B94 :  ∀ {H : Heap} {locs : List Loc} {ls : Array Slot} (v2 : Int32) (s0 : Int32) (isWord : Int32) (rdA : Nat → Int32) (V : VW g A s.heap H locs (gX12 g a_this a_this_z a_this_saved a_this_text a_this_line a_this_aside a_this_read a_this_fewest thrown z saves saved length text many line aside isWord entries rdA fewest h)) (hl : lv_has ls 6 [(0, .ref a_this), (1, .int p1), (2, .int v2)]) (hw : wX12_takesOutline_94 entries p1 P v2 s0 isWord rdA), W p l e (kR 2 42 0 0) s m ([.ref a_this, .int p1] : List Value).toArray below meth c H locs 0 0 Q (F0 m 94 ls [.int s0]) := by
    intro  H locs ls v2 s0 isWord rdA V hl hw
    refine lv_istore (lv' := [(5, .int s0), (0, .ref a_this), (1, .int p1), (2, .int v2)]) hx hb dX12_takesOutline_94 hl (by decide) rfl (fun ls hl => ?_)
    refine lv_aload_n hx hb dX12_takesOutline_96 rfl (lv_at hl 1 rfl) ?_
    refine kget F V 8 11 0 rfl rfl iX12_takesOutline_X12 fX12_takesOutline_25 (by decide) rfl rfl dX12_takesOutline_97 ?_
    refine lv_iload_n hx hb dX12_takesOutline_100 rfl (lv_at hl 3 rfl) ?_
    refine lv_dup2_11 hx hb dX12_takesOutline_101 rfl rfl ?_
    refine kiald F V 6 rfl hw.1 dX12_takesOutline_102 ?_
    have hw := hw.2
    refine lv_iload hx hb dX12_takesOutline_103 (lv_at hl 0 rfl) ?_
    refine lv_if_eq (tgt := 112) hx hb dX12_takesOutline_105 (by decide) (fun c_105 => ?_) (fun c_105 => ?_)
    · have hw := hw.1 c_105
      refine lv_iconst (v := 0) hx hb dX12_takesOutline_112 (by decide) ?_
      exact B113  s0 v2 (rdA v2.toNatClampNeg) 0 isWord rdA V (lv_sub hl [1, 2, 0] rfl) hw
    · have hw := hw.2 c_105
      refine lv_iconst (v := 1) hx hb dX12_takesOutline_108 (by decide) ?_
      refine lv_goto (tgt := 113) hx hb dX12_takesOutline_109 (by decide) ?_
      exact B113  s0 v2 (rdA v2.toNatClampNeg) 1 isWord rdA V (lv_sub hl [1, 2, 0] rfl) hw
  have B93 :  ∀ {H : Heap} {locs : List Loc} {ls : Array Slot} (v2 : Int32) (isWord : Int32) (rdA : Nat → Int32) (V : VW g A s.heap H locs (gX12 g a_this a_this_z a_this_saved a_this_text a_this_line a_this_aside a_this_read a_this_fewest thrown z saves saved length text many line aside isWord entries rdA fewest h)) (hl : lv_has ls 6 [(0, .ref a_this), (1, .int p1), (2, .int v2)]) (hw : wX12_takesOutline_93 entries p1 P v2 isWord rdA), W p l e (kR 2 42 0 0) s m ([.ref a_this, .int p1] : List Value).toArray below meth c H locs 0 0 Q (F0 m 93 ls []) := by
    intro  H locs ls v2 isWord rdA V hl hw
    refine lv_iconst (v := 0) hx hb dX12_takesOutline_93 (by decide) ?_
    exact B94  v2 0 isWord rdA V hl hw
  have B89 :  ∀ {H : Heap} {locs : List Loc} {ls : Array Slot} (v2 : Int32) (isWord : Int32) (rdA : Nat → Int32) (V : VW g A s.heap H locs (gX12 g a_this a_this_z a_this_saved a_this_text a_this_line a_this_aside a_this_read a_this_fewest thrown z saves saved length text many line aside isWord entries rdA fewest h)) (hl : lv_has ls 6 [(0, .ref a_this), (1, .int p1), (2, .int v2)]) (hw : wX12_takesOutline_89 entries p1 P v2 isWord rdA), W p l e (kR 2 42 0 0) s m ([.ref a_this, .int p1] : List Value).toArray below meth c H locs 0 0 Q (F0 m 89 ls []) := by
    intro  H locs ls v2 isWord rdA V hl hw
    refine lv_iconst (v := 1) hx hb dX12_takesOutline_89 (by decide) ?_
    refine lv_goto (tgt := 94) hx hb dX12_takesOutline_90 (by decide) ?_
    exact B94  v2 1 isWord rdA V hl hw
  have B58 :  ∀ {H : Heap} {locs : List Loc} {ls : Array Slot} (v2 : Int32) (v3 : Int32) (isWord : Int32) (rdA : Nat → Int32) (V : VW g A s.heap H locs (gX12 g a_this a_this_z a_this_saved a_this_text a_this_line a_this_aside a_this_read a_this_fewest thrown z saves saved length text many line aside isWord entries rdA fewest h)) (hl : lv_has ls 6 [(0, .ref a_this), (1, .int p1), (2, .int v2), (3, .int v3)]) (hw : wX12_takesOutline_58 entries p1 P v2 v3 isWord rdA), W p l e (kR 2 42 0 0) s m ([.ref a_this, .int p1] : List Value).toArray below meth c H locs 0 0 Q (F0 m 58 ls []) := by
    intro  H locs ls v2 v3 isWord rdA V hl hw
    refine lv_aload_n hx hb dX12_takesOutline_58 rfl (lv_at hl 0 rfl) ?_
    refine kget F V 8 11 0 rfl rfl iX12_takesOutline_X12 fX12_takesOutline_25 (by decide) rfl rfl dX12_takesOutline_59 ?_
    refine lv_iload_n hx hb dX12_takesOutline_62 rfl (lv_at hl 3 rfl) ?_
    refine kiald F V 6 rfl hw.1 dX12_takesOutline_63 ?_
    have hw := hw.2
    refine lv_if_le (tgt := 93) hx hb dX12_takesOutline_64 (by decide) (fun c_64 => ?_) (fun c_64 => ?_)
    · have hw := hw.1 c_64
      exact B93  v2 isWord rdA V (lv_sub hl [0, 1, 2] rfl) hw
    · have hw := hw.2 c_64
      refine lv_iload_n hx hb dX12_takesOutline_67 rfl (lv_at hl 1 rfl) ?_
      refine lv_bipush (v := 61) hx hb dX12_takesOutline_68 (by decide) ?_
      refine lv_icmp_eq (tgt := 89) hx hb dX12_takesOutline_70 (by decide) (fun c_70 => ?_) (fun c_70 => ?_)
      · have hw := hw.1 c_70
        exact B89  v2 isWord rdA V (lv_sub hl [0, 1, 2] rfl) hw
      · have hw := hw.2 c_70
        refine lv_iload_n hx hb dX12_takesOutline_73 rfl (lv_at hl 1 rfl) ?_
        refine lv_bipush (v := 47) hx hb dX12_takesOutline_74 (by decide) ?_
        refine lv_icmp_ne (tgt := 93) hx hb dX12_takesOutline_76 (by decide) (fun c_76 => ?_) (fun c_76 => ?_)
        · have hw := hw.1 c_76
          exact B93  v2 isWord rdA V (lv_sub hl [0, 1, 2] rfl) hw
        · have hw := hw.2 c_76
          refine lv_aload_n hx hb dX12_takesOutline_79 rfl (lv_at hl 0 rfl) ?_
          refine kget F V 8 11 0 rfl rfl iX12_takesOutline_X12 fX12_takesOutline_25 (by decide) rfl rfl dX12_takesOutline_80 ?_
          refine lv_iload_n hx hb dX12_takesOutline_83 rfl (lv_at hl 2 rfl) ?_
          refine kiald F V 6 rfl hw.1 dX12_takesOutline_84 ?_
          have hw := hw.2
          refine lv_iconst (v := 3) hx hb dX12_takesOutline_85 (by decide) ?_
          refine lv_icmp_ge (tgt := 93) hx hb dX12_takesOutline_86 (by decide) (fun c_86 => ?_) (fun c_86 => ?_)
          · have hw := hw.1 c_86
            exact B93  v2 isWord rdA V (lv_sub hl [0, 1, 2] rfl) hw
          · have hw := hw.2 c_86
            exact B89  v2 isWord rdA V (lv_sub hl [0, 1, 2] rfl) hw
  refine lv_bipush (v := 14) hx hb dX12_takesOutline_0 (by decide) ?_
  refine lv_aload_n hx hb dX12_takesOutline_2 rfl (lv_at hl 0 rfl) ?_
  refine kget F V 8 10 0 rfl rfl iX12_takesOutline_X12 fX12_takesOutline_128 (by decide) rfl rfl dX12_takesOutline_3 ?_
  refine lv_imul hx hb dX12_takesOutline_6 ?_
  refine lv_topi (fun v2_7 ev2_7 => ?_)
  have hw := hw v2_7 ev2_7
  refine lv_istore_n (lv' := [(2, .int v2_7), (0, .ref a_this), (1, .int p1)]) hx hb dX12_takesOutline_7 rfl hl (by decide) rfl (fun ls hl => ?_)
  refine lv_iload_n hx hb dX12_takesOutline_8 rfl (lv_at hl 0 rfl) ?_
  refine lv_iconst (v := 1) hx hb dX12_takesOutline_9 (by decide) ?_
  refine lv_iadd hx hb dX12_takesOutline_10 ?_
  refine lv_aload_n hx hb dX12_takesOutline_11 rfl (lv_at hl 1 rfl) ?_
  refine kget F V 8 11 0 rfl rfl iX12_takesOutline_X12 fX12_takesOutline_25 (by decide) rfl rfl dX12_takesOutline_12 ?_
  refine lv_iload_n hx hb dX12_takesOutline_15 rfl (lv_at hl 0 rfl) ?_
  refine kiald F V 6 rfl hw.1 dX12_takesOutline_16 ?_
  have hw := hw.2
  refine lv_iadd hx hb dX12_takesOutline_17 ?_
  refine lv_topi (fun v3_18 ev3_18 => ?_)
  have hw := hw v3_18 ev3_18
  refine lv_istore_n (lv' := [(3, .int v3_18), (2, .int v2_7), (0, .ref a_this), (1, .int p1)]) hx hb dX12_takesOutline_18 rfl hl (by decide) rfl (fun ls hl => ?_)
  refine lv_iload_n hx hb dX12_takesOutline_19 rfl (lv_at hl 3 rfl) ?_
  refine kSi0n (rest := []) F hl V (kX12_keyOf l g p1 _ hw) gX12_takesOutline_X12_keyOf rfl 1 rfl hdX12_keyOf ⟨Nat.le_of_ble_eq_true rfl, Nat.le_of_ble_eq_true rfl⟩ ⟨Nat.le_of_ble_eq_true rfl, Nat.le_of_ble_eq_true rfl⟩ (Nat.le_of_ble_eq_true rfl) rfl dX12_takesOutline_20 (fun r_20 H locs hw V => ?_)
  refine lv_istore (lv' := [(4, .int r_20), (3, .int v3_18), (2, .int v2_7), (0, .ref a_this), (1, .int p1)]) hx hb dX12_takesOutline_23 hl (by decide) rfl (fun ls hl => ?_)
  refine lv_iload hx hb dX12_takesOutline_25 (lv_at hl 0 rfl) ?_
  refine lv_iconst (v := (-1)) hx hb dX12_takesOutline_27 (by decide) ?_
  refine lv_icmp_eq (tgt := 58) hx hb dX12_takesOutline_28 (by decide) (fun c_28 => ?_) (fun c_28 => ?_)
  · have hw := hw.1 c_28
    exact B58  v2_7 v3_18 isWord rdA V (lv_sub hl [3, 4, 2, 1] rfl) hw
  · have hw := hw.2 c_28
    refine lv_aload_n hx hb dX12_takesOutline_31 rfl (lv_at hl 3 rfl) ?_
    refine kget F V 8 11 0 rfl rfl iX12_takesOutline_X12 fX12_takesOutline_25 (by decide) rfl rfl dX12_takesOutline_32 ?_
    refine lv_iload_n hx hb dX12_takesOutline_35 rfl (lv_at hl 1 rfl) ?_
    refine kiald F V 6 rfl hw.1 dX12_takesOutline_36 ?_
    have hw := hw.2
    refine lv_iload hx hb dX12_takesOutline_37 (lv_at hl 0 rfl) ?_
    refine lv_ishr hx hb dX12_takesOutline_39 ?_
    refine lv_if_ne (tgt := 58) hx hb dX12_takesOutline_40 (by decide) (fun c_40 => ?_) (fun c_40 => ?_)
    · have hw := hw.1 c_40
      exact B58  v2_7 v3_18 isWord rdA V (lv_sub hl [3, 4, 2, 1] rfl) hw
    · have hw := hw.2 c_40
      refine lv_aload_n hx hb dX12_takesOutline_43 rfl (lv_at hl 3 rfl) ?_
      refine kget F V 8 11 0 rfl rfl iX12_takesOutline_X12 fX12_takesOutline_25 (by decide) rfl rfl dX12_takesOutline_44 ?_
      refine lv_iload_n hx hb dX12_takesOutline_47 rfl (lv_at hl 1 rfl) ?_
      refine lv_dup2_11 hx hb dX12_takesOutline_48 rfl rfl ?_
      refine kiald F V 6 rfl hw.1 dX12_takesOutline_49 ?_
      have hw := hw.2
      refine lv_iconst (v := 1) hx hb dX12_takesOutline_50 (by decide) ?_
      refine lv_iload hx hb dX12_takesOutline_51 (lv_at hl 0 rfl) ?_
      refine lv_ishl hx hb dX12_takesOutline_53 ?_
      refine lv_ior hx hb dX12_takesOutline_54 ?_
      refine kiast F V 6 rfl hw.1 dX12_takesOutline_55 (fun rdA_55 erdA_55 H locs V => ?_)
      have hw := hw.2 rdA_55 erdA_55
      have V : VW g A s.heap H locs (gX12 g a_this a_this_z a_this_saved a_this_text a_this_line a_this_aside a_this_read a_this_fewest thrown z saves saved length text many line aside isWord entries rdA_55 fewest h) := V
      refine lv_iconst (v := 1) hx hb dX12_takesOutline_56 (by decide) ?_
      exact ret _ _ _ _ _ _ _ rfl dX12_takesOutline_57 V hw
