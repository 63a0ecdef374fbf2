theorem hdX12_thrown : yX12_thrown.cls = RX12 ∧ yX12_thrown.cls ≠ "java/lang/invoke/MethodHandle" ∧ yX12_thrown.cls ≠ "java/lang/invoke/VarHandle" ∧ (parseMethodDescriptor yX12_thrown.desc).map (fun d => d.parameters.length) = some 0 := by decide +kernel
theorem fX12_thrown_31 : Cond.fieldLink RX12 31 RX12 "thrown" "I" ∈ wsX12_thrown := by decide +kernel
theorem iX12_thrown_X12 : ∀ w ∈ u_ws RX12 TX12 14, w ∈ wsX12_thrown := by decide +kernel
def wX12_thrown (thrown : Int32) (P : Int32 → Prop) : Prop := P thrown
set_option maxHeartbeats 4000000 in
set_option maxRecDepth 100000 in
theorem kX12_thrown (l : Launch) (g : kT) (a_this : Nat) (a_this_z : Nat) (a_this_saved : Nat) (a_this_text : Nat) (a_this_line : Nat) (a_this_aside : Nat) (a_this_read : Nat) (a_this_fewest : Nat) (thrown : Int32) (z : Nat → Int32) (saves : Int32) (saved : Nat → Int32) (length : Int32) (text : Nat → Int32) (many : Int32) (line : Nat → Int32) (aside : Nat → Int32) (isWord : Int32) (entries : Int32) (rdA : Nat → Int32) (fewest : Nat → Int32) (h : Int64) (P : Int32 → Prop) (hw : wX12_thrown thrown P) : Ki0 l g yX12_thrown wsX12_thrown 0 0 0 0 [.ref a_this] (gX12 g a_this a_this_z a_this_saved a_this_text a_this_line a_this_aside a_this_read a_this_fewest thrown z saves saved length text many line aside isWord entries rdA fewest h) P (gX12 g a_this a_this_z a_this_saved a_this_text a_this_line a_this_aside a_this_read a_this_fewest thrown z saves saved length text many line aside isWord entries rdA fewest h) := by
  refine Ki0.mk (cc := cX12_thrown) (nL := 1) (ty := .int) (by decide +kernel) rfl (Nat.le_of_ble_eq_true rfl) ?_
  intro p e s m below meth c A Q ls F hl V ret
  have hx := F.x
  have hb := F.b
  have hl : lv_has ls 1 [(0, .ref a_this)] := hl
  refine lv_aload_n hx hb dX12_thrown_0 rfl (lv_at hl 0 rfl) ?_
  refine kget F V 8 0 0 rfl rfl iX12_thrown_X12 fX12_thrown_31 (by decide) rfl rfl dX12_thrown_1 ?_
  exact ret _ _ _ _ _ rfl dX12_thrown_4 V hw
theorem hdX12_within : yX12_within.cls ≠ "java/lang/invoke/MethodHandle" ∧ yX12_within.cls ≠ "java/lang/invoke/VarHandle" ∧ (parseMethodDescriptor yX12_within.desc).map (fun d => d.parameters.length) = some 3 := by decide +kernel
def wX12_within (p1 : Int32) (p2 : Int32) (p3 : Int32) (P : Int32 → Prop) : Prop := (p1 < p2 → P 0) ∧ (¬ (p1 < p2) → (p3 < p1 → P 0) ∧ (¬ (p3 < p1) → P 1))
set_option maxHeartbeats 4000000 in
set_option maxRecDepth 100000 in
theorem kX12_within (l : Launch) (g : kT) (p1 : Int32) (p2 : Int32) (p3 : Int32) (P : Int32 → Prop) (hw : wX12_within p1 p2 p3 P) : Ki0 l g yX12_within wsX12_within 0 0 0 0 [.int p1, .int p2, .int p3] [] P [] := by
  refine Ki0.mk (cc := cX12_within) (nL := 3) (ty := .boolean) (by decide +kernel) rfl (Nat.le_of_ble_eq_true rfl) ?_
  intro p e s m below meth c A Q ls F hl V ret
  have hx := F.x
  have hb := F.b
  have hl : lv_has ls 3 [(0, .int p1), (1, .int p2), (2, .int p3)] := hl
  refine lv_iload_n hx hb dX12_within_0 rfl (lv_at hl 0 rfl) ?_
  refine lv_iload_n hx hb dX12_within_1 rfl (lv_at hl 1 rfl) ?_
  refine lv_icmp_lt (tgt := 14) hx hb dX12_within_2 (by decide) (fun c_2 => ?_) (fun c_2 => ?_)
  · have hw := hw.1 c_2
    refine lv_iconst (v := 0) hx hb dX12_within_14 (by decide) ?_
    exact ret _ _ _ _ _ rfl dX12_within_15 V hw
  · have hw := hw.2 c_2
    refine lv_iload_n hx hb dX12_within_5 rfl (lv_at hl 0 rfl) ?_
    refine lv_iload_n hx hb dX12_within_6 rfl (lv_at hl 2 rfl) ?_
    refine lv_icmp_gt (tgt := 14) hx hb dX12_within_7 (by decide) (fun c_7 => ?_) (fun c_7 => ?_)
    · have hw := hw.1 c_7
      refine lv_iconst (v := 0) hx hb dX12_within_14 (by decide) ?_
      exact ret _ _ _ _ _ rfl dX12_within_15 V hw
    · have hw := hw.2 c_7
      refine lv_iconst (v := 1) hx hb dX12_within_10 (by decide) ?_
      refine lv_goto (tgt := 15) hx hb dX12_within_11 (by decide) ?_
      exact ret _ _ _ _ _ rfl dX12_within_15 V hw
theorem hdX12_entryAt : yX12_entryAt.cls ≠ "java/lang/invoke/MethodHandle" ∧ yX12_entryAt.cls ≠ "java/lang/invoke/VarHandle" ∧ (parseMethodDescriptor yX12_entryAt.desc).map (fun d => d.parameters.length) = some 1 := by decide +kernel
def wX12_entryAt (p1 : Int32) (P : Int32 → Prop) : Prop := P (1 + (14 * p1))
set_option maxHeartbeats 4000000 in
set_option maxRecDepth 100000 in
theorem kX12_entryAt (l : Launch) (g : kT) (p1 : Int32) (P : Int32 → Prop) (hw : wX12_entryAt p1 P) : Ki0 l g yX12_entryAt wsX12_entryAt 0 0 0 0 [.int p1] [] P [] := by
  refine Ki0.mk (cc := cX12_entryAt) (nL := 1) (ty := .int) (by decide +kernel) rfl (Nat.le_of_ble_eq_true rfl) ?_
  intro p e s m below meth c A Q ls F hl V ret
  have hx := F.x
  have hb := F.b
  have hl : lv_has ls 1 [(0, .int p1)] := hl
  refine lv_iconst (v := 1) hx hb dX12_entryAt_0 (by decide) ?_
  refine lv_bipush (v := 14) hx hb dX12_entryAt_1 (by decide) ?_
  refine lv_iload_n hx hb dX12_entryAt_3 rfl (lv_at hl 0 rfl) ?_
  refine lv_imul hx hb dX12_entryAt_4 ?_
  refine lv_iadd hx hb dX12_entryAt_5 ?_
  exact ret _ _ _ _ _ rfl dX12_entryAt_6 V hw
theorem hdX12_itemAt : yX12_itemAt.cls ≠ "java/lang/invoke/MethodHandle" ∧ yX12_itemAt.cls ≠ "java/lang/invoke/VarHandle" ∧ (parseMethodDescriptor yX12_itemAt.desc).map (fun d => d.parameters.length) = some 1 := by decide +kernel
def wX12_itemAt (p1 : Int32) (P : Int32 → Prop) : Prop := P (400 + (15 * p1))
set_option maxHeartbeats 4000000 in
set_option maxRecDepth 100000 in
theorem kX12_itemAt (l : Launch) (g : kT) (p1 : Int32) (P : Int32 → Prop) (hw : wX12_itemAt p1 P) : Ki0 l g yX12_itemAt wsX12_itemAt 0 0 0 0 [.int p1] [] P [] := by
  refine Ki0.mk (cc := cX12_itemAt) (nL := 1) (ty := .int) (by decide +kernel) rfl (Nat.le_of_ble_eq_true rfl) ?_
  intro p e s m below meth c A Q ls F hl V ret
  have hx := F.x
  have hb := F.b
  have hl : lv_has ls 1 [(0, .int p1)] := hl
  refine lv_sipush (v := 400) hx hb dX12_itemAt_0 (by decide) ?_
  refine lv_bipush (v := 15) hx hb dX12_itemAt_3 (by decide) ?_
  refine lv_iload_n hx hb dX12_itemAt_5 rfl (lv_at hl 0 rfl) ?_
  refine lv_imul hx hb dX12_itemAt_6 ?_
  refine lv_iadd hx hb dX12_itemAt_7 ?_
  exact ret _ _ _ _ _ rfl dX12_itemAt_8 V hw
theorem hdX12_isEntry : yX12_isEntry.cls = RX12 ∧ yX12_isEntry.cls ≠ "java/lang/invoke/MethodHandle" ∧ yX12_isEntry.cls ≠ "java/lang/invoke/VarHandle" ∧ (parseMethodDescriptor yX12_isEntry.desc).map (fun d => d.parameters.length) = some 1 := by decide +kernel
theorem fX12_isEntry_7 : Cond.fieldLink RX12 7 RX12 "z" "[I" ∈ wsX12_isEntry := by decide +kernel
theorem iX12_isEntry_X12 : ∀ w ∈ u_ws RX12 TX12 14, w ∈ wsX12_isEntry := by decide +kernel
def wX12_isEntry (z : Nat → Int32) (p1 : Int32) (P : Int32 → Prop) : Prop := vp_in 0 1317 ∧ wX12_within p1 0 ((z (0 : Int32).toNatClampNeg) - 1) (fun r_10 => (r_10 = 0 ∨ r_10 = 1) ∧ P r_10)
set_option maxHeartbeats 4000000 in
set_option maxRecDepth 100000 in
theorem kX12_isEntry (l : Launch) (g : kT) (a_this : Nat) (a_this_z : Nat) (a_this_saved : Nat) (a_this_text : Nat) (a_this_line : Nat) (a_this_aside : Nat) (a_this_read : Nat) (a_this_fewest : Nat) (thrown : Int32) (z : Nat → Int32) (saves : Int32) (saved : Nat → Int32) (length : Int32) (text : Nat → Int32) (many : Int32) (line : Nat → Int32) (aside : Nat → Int32) (isWord : Int32) (entries : Int32) (rdA : Nat → Int32) (fewest : Nat → Int32) (h : Int64) (p1 : Int32) (P : Int32 → Prop) (hw : wX12_isEntry z p1 P) : Ki0 l g yX12_isEntry wsX12_isEntry 1 22 0 0 [.ref a_this, .int p1] (gX12 g a_this a_this_z a_this_saved a_this_text a_this_line a_this_aside a_this_read a_this_fewest thrown z saves saved length text many line aside isWord entries rdA fewest h) P (gX12 g a_this a_this_z a_this_saved a_this_text a_this_line a_this_aside a_this_read a_this_fewest thrown z saves saved length text many line aside isWord entries rdA fewest h) := by
  refine Ki0.mk (cc := cX12_isEntry) (nL := 2) (ty := .boolean) (by decide +kernel) rfl (Nat.le_of_ble_eq_true rfl) ?_
  intro p e s m below meth c A Q ls F hl V ret
  have hx := F.x
  have hb := F.b
  have hl : lv_has ls 2 [(0, .ref a_this), (1, .int p1)] := hl
  refine lv_iload_n hx hb dX12_isEntry_0 rfl (lv_at hl 1 rfl) ?_
  refine lv_iconst (v := 0) hx hb dX12_isEntry_1 (by decide) ?_
  refine lv_aload_n hx hb dX12_isEntry_2 rfl (lv_at hl 0 rfl) ?_
  refine kget F V 8 1 0 rfl rfl iX12_isEntry_X12 fX12_isEntry_7 (by decide) rfl rfl dX12_isEntry_3 ?_
  refine lv_iconst (v := 0) hx hb dX12_isEntry_6 (by decide) ?_
  refine kiald F V 1 rfl hw.1 dX12_isEntry_7 ?_
  have hw := hw.2
  refine lv_iconst (v := 1) hx hb dX12_isEntry_8 (by decide) ?_
  refine lv_isub hx hb dX12_isEntry_9 ?_
  refine kSi0n (rest := []) F hl V (kX12_within l g p1 0 ((z (0 : Int32).toNatClampNeg) - 1) _ hw) gX12_isEntry_X12_within rfl 3 rfl hdX12_within ⟨Nat.le_of_ble_eq_true rfl, Nat.le_of_ble_eq_true rfl⟩ ⟨Nat.le_of_ble_eq_true rfl, Nat.le_of_ble_eq_true rfl⟩ (Nat.le_of_ble_eq_true rfl) rfl dX12_isEntry_10 (fun r_10 H locs hw V => ?_)
  exact ret _ _ _ _ _ (k01n hw.1) dX12_isEntry_13 V hw.2
theorem hdX12_isItem : yX12_isItem.cls = RX12 ∧ yX12_isItem.cls ≠ "java/lang/invoke/MethodHandle" ∧ yX12_isItem.cls ≠ "java/lang/invoke/VarHandle" ∧ (parseMethodDescriptor yX12_isItem.desc).map (fun d => d.parameters.length) = some 1 := by decide +kernel
theorem fX12_isItem_7 : Cond.fieldLink RX12 7 RX12 "z" "[I" ∈ wsX12_isItem := by decide +kernel
theorem iX12_isItem_X12 : ∀ w ∈ u_ws RX12 TX12 14, w ∈ wsX12_isItem := by decide +kernel
def wX12_isItem (z : Nat → Int32) (p1 : Int32) (P : Int32 → Prop) : Prop := vp_in 399 1317 ∧ wX12_within p1 0 ((z (399 : Int32).toNatClampNeg) - 1) (fun r_12 => (r_12 = 0 ∨ r_12 = 1) ∧ P r_12)
set_option maxHeartbeats 4000000 in
set_option maxRecDepth 100000 in
theorem kX12_isItem (l : Launch) (g : kT) (a_this : Nat) (a_this_z : Nat) (a_this_saved : Nat) (a_this_text : Nat) (a_this_line : Nat) (a_this_aside : Nat) (a_this_read : Nat) (a_this_fewest : Nat) (thrown : Int32) (z : Nat → Int32) (saves : Int32) (saved : Nat → Int32) (length : Int32) (text : Nat → Int32) (many : Int32) (line : Nat → Int32) (aside : Nat → Int32) (isWord : Int32) (entries : Int32) (rdA : Nat → Int32) (fewest : Nat → Int32) (h : Int64) (p1 : Int32) (P : Int32 → Prop) (hw : wX12_isItem z p1 P) : Ki0 l g yX12_isItem wsX12_isItem 1 22 0 0 [.ref a_this, .int p1] (gX12 g a_this a_this_z a_this_saved a_this_text a_this_line a_this_aside a_this_read a_this_fewest thrown z saves saved length text many line aside isWord entries rdA fewest h) P (gX12 g a_this a_this_z a_this_saved a_this_text a_this_line a_this_aside a_this_read a_this_fewest thrown z saves saved length text many line aside isWord entries rdA fewest h) := by
  refine Ki0.mk (cc := cX12_isItem) (nL := 2) (ty := .boolean) (by decide +kernel) rfl (Nat.le_of_ble_eq_true rfl) ?_
  intro p e s m below meth c A Q ls F hl V ret
  have hx := F.x
  have hb := F.b
  have hl : lv_has ls 2 [(0, .ref a_this), (1, .int p1)] := hl
  refine lv_iload_n hx hb dX12_isItem_0 rfl (lv_at hl 1 rfl) ?_
  refine lv_iconst (v := 0) hx hb dX12_isItem_1 (by decide) ?_
  refine lv_aload_n hx hb dX12_isItem_2 rfl (lv_at hl 0 rfl) ?_
  refine kget F V 8 1 0 rfl rfl iX12_isItem_X12 fX12_isItem_7 (by decide) rfl rfl dX12_isItem_3 ?_
  refine lv_sipush (v := 399) hx hb dX12_isItem_6 (by decide) ?_
  refine kiald F V 1 rfl hw.1 dX12_isItem_9 ?_
  have hw := hw.2
  refine lv_iconst (v := 1) hx hb dX12_isItem_10 (by decide) ?_
  refine lv_isub hx hb dX12_isItem_11 ?_
  refine kSi0n (rest := []) F hl V (kX12_within l g p1 0 ((z (399 : Int32).toNatClampNeg) - 1) _ hw) gX12_isItem_X12_within rfl 3 rfl hdX12_within ⟨Nat.le_of_ble_eq_true rfl, Nat.le_of_ble_eq_true rfl⟩ ⟨Nat.le_of_ble_eq_true rfl, Nat.le_of_ble_eq_true rfl⟩ (Nat.le_of_ble_eq_true rfl) rfl dX12_isItem_12 (fun r_12 H locs hw V => ?_)
  exact ret _ _ _ _ _ (k01n hw.1) dX12_isItem_15 V hw.2
theorem hdX12_keyLetter : yX12_keyLetter.cls ≠ "java/lang/invoke/MethodHandle" ∧ yX12_keyLetter.cls ≠ "java/lang/invoke/VarHandle" ∧ (parseMethodDescriptor yX12_keyLetter.desc).map (fun d => d.parameters.length) = some 1 := by decide +kernel
def wX12_keyLetter (p1 : Int32) (P : Int32 → Prop) : Prop := (p1 = 0 → P 83) ∧ (p1 = 1 → P 84) ∧ (p1 = 2 → P 80) ∧ (p1 = 3 → P 72) ∧ (p1 = 4 → P 65) ∧ (p1 = 5 → P 79) ∧ (p1 = 6 → P 69) ∧ (p1 = 7 → P 85) ∧ (p1 = 8 → P 70) ∧ (p1 = 9 → P 82) ∧ (p1 = 10 → P 66) ∧ (¬ p1 = 0 → ¬ p1 = 1 → ¬ p1 = 2 → ¬ p1 = 3 → ¬ p1 = 4 → ¬ p1 = 5 → ¬ p1 = 6 → ¬ p1 = 7 → ¬ p1 = 8 → ¬ p1 = 9 → ¬ p1 = 10 → P 71)
set_option maxHeartbeats 4000000 in
set_option maxRecDepth 100000 in
theorem kX12_keyLetter (l : Launch) (g : kT) (p1 : Int32) (P : Int32 → Prop) (hw : wX12_keyLetter p1 P) : Ki0 l g yX12_keyLetter wsX12_keyLetter 0 0 0 0 [.int p1] [] P [] := by
  refine Ki0.mk (cc := cX12_keyLetter) (nL := 1) (ty := .int) (by decide +kernel) rfl (Nat.le_of_ble_eq_true rfl) ?_
  intro p e s m below meth c A Q ls F hl V ret
  have hx := F.x
  have hb := F.b
  have hl : lv_has ls 1 [(0, .int p1)] := hl
  refine lv_iload_n hx hb dX12_keyLetter_0 rfl (lv_at hl 0 rfl) ?_
  by_cases c_1_0 : p1 = 0
  · have hw := hw.1 c_1_0
    refine lv_tableIn (tgt := 60) hx hb dX12_keyLetter_1 (by rw [c_1_0]; decide) (by rw [c_1_0]; decide) (by rw [c_1_0]; rfl) (by decide) ?_
    refine lv_bipush (v := 83) hx hb dX12_keyLetter_60 (by decide) ?_
    exact ret _ _ _ _ _ rfl dX12_keyLetter_62 V hw
  by_cases c_1_1 : p1 = 1
  · have hw := hw.2.1 c_1_1
    refine lv_tableIn (tgt := 63) hx hb dX12_keyLetter_1 (by rw [c_1_1]; decide) (by rw [c_1_1]; decide) (by rw [c_1_1]; rfl) (by decide) ?_
    refine lv_bipush (v := 84) hx hb dX12_keyLetter_63 (by decide) ?_
    exact ret _ _ _ _ _ rfl dX12_keyLetter_65 V hw
  by_cases c_1_2 : p1 = 2
  · have hw := hw.2.2.1 c_1_2
    refine lv_tableIn (tgt := 66) hx hb dX12_keyLetter_1 (by rw [c_1_2]; decide) (by rw [c_1_2]; decide) (by rw [c_1_2]; rfl) (by decide) ?_
    refine lv_bipush (v := 80) hx hb dX12_keyLetter_66 (by decide) ?_
    exact ret _ _ _ _ _ rfl dX12_keyLetter_68 V hw
  by_cases c_1_3 : p1 = 3
  · have hw := hw.2.2.2.1 c_1_3
    refine lv_tableIn (tgt := 69) hx hb dX12_keyLetter_1 (by rw [c_1_3]; decide) (by rw [c_1_3]; decide) (by rw [c_1_3]; rfl) (by decide) ?_
    refine lv_bipush (v := 72) hx hb dX12_keyLetter_69 (by decide) ?_
    exact ret _ _ _ _ _ rfl dX12_keyLetter_71 V hw
  by_cases c_1_4 : p1 = 4
  · have hw := hw.2.2.2.2.1 c_1_4
    refine lv_tableIn (tgt := 72) hx hb dX12_keyLetter_1 (by rw [c_1_4]; decide) (by rw [c_1_4]; decide) (by rw [c_1_4]; rfl) (by decide) ?_
    refine lv_bipush (v := 65) hx hb dX12_keyLetter_72 (by decide) ?_
    exact ret _ _ _ _ _ rfl dX12_keyLetter_74 V hw
  by_cases c_1_5 : p1 = 5
  · have hw := hw.2.2.2.2.2.1 c_1_5
    refine lv_tableIn (tgt := 75) hx hb dX12_keyLetter_1 (by rw [c_1_5]; decide) (by rw [c_1_5]; decide) (by rw [c_1_5]; rfl) (by decide) ?_
    refine lv_bipush (v := 79) hx hb dX12_keyLetter_75 (by decide) ?_
    exact ret _ _ _ _ _ rfl dX12_keyLetter_77 V hw
  by_cases c_1_6 : p1 = 6
  · have hw := hw.2.2.2.2.2.2.1 c_1_6
    refine lv_tableIn (tgt := 78) hx hb dX12_keyLetter_1 (by rw [c_1_6]; decide) (by rw [c_1_6]; decide) (by rw [c_1_6]; rfl) (by decide) ?_
    refine lv_bipush (v := 69) hx hb dX12_keyLetter_78 (by decide) ?_
    exact ret _ _ _ _ _ rfl dX12_keyLetter_80 V hw
  by_cases c_1_7 : p1 = 7
  · have hw := hw.2.2.2.2.2.2.2.1 c_1_7
    refine lv_tableIn (tgt := 81) hx hb dX12_keyLetter_1 (by rw [c_1_7]; decide) (by rw [c_1_7]; decide) (by rw [c_1_7]; rfl) (by decide) ?_
    refine lv_bipush (v := 85) hx hb dX12_keyLetter_81 (by decide) ?_
    exact ret _ _ _ _ _ rfl dX12_keyLetter_83 V hw
  by_cases c_1_8 : p1 = 8
  · have hw := hw.2.2.2.2.2.2.2.2.1 c_1_8
    refine lv_tableIn (tgt := 84) hx hb dX12_keyLetter_1 (by rw [c_1_8]; decide) (by rw [c_1_8]; decide) (by rw [c_1_8]; rfl) (by decide) ?_
    refine lv_bipush (v := 70) hx hb dX12_keyLetter_84 (by decide) ?_
    exact ret _ _ _ _ _ rfl dX12_keyLetter_86 V hw
  by_cases c_1_9 : p1 = 9
  · have hw := hw.2.2.2.2.2.2.2.2.2.1 c_1_9
    refine lv_tableIn (tgt := 87) hx hb dX12_keyLetter_1 (by rw [c_1_9]; decide) (by rw [c_1_9]; decide) (by rw [c_1_9]; rfl) (by decide) ?_
    refine lv_bipush (v := 82) hx hb dX12_keyLetter_87 (by decide) ?_
    exact ret _ _ _ _ _ rfl dX12_keyLetter_89 V hw
  by_cases c_1_10 : p1 = 10
  · have hw := hw.2.2.2.2.2.2.2.2.2.2.1 c_1_10
    refine lv_tableIn (tgt := 90) hx hb dX12_keyLetter_1 (by rw [c_1_10]; decide) (by rw [c_1_10]; decide) (by rw [c_1_10]; rfl) (by decide) ?_
    refine lv_bipush (v := 66) hx hb dX12_keyLetter_90 (by decide) ?_
    exact ret _ _ _ _ _ rfl dX12_keyLetter_92 V hw
  have hw := hw.2.2.2.2.2.2.2.2.2.2.2 c_1_0 c_1_1 c_1_2 c_1_3 c_1_4 c_1_5 c_1_6 c_1_7 c_1_8 c_1_9 c_1_10
  refine lv_tableOut (tgt := 93) hx hb dX12_keyLetter_1 (by have i_0 : ¬ (p1).toInt = 0 := fun q => c_1_0 (Int32.toInt_inj.mp (by rw [q]; rfl)); have i_1 : ¬ (p1).toInt = 1 := fun q => c_1_1 (Int32.toInt_inj.mp (by rw [q]; rfl)); have i_2 : ¬ (p1).toInt = 2 := fun q => c_1_2 (Int32.toInt_inj.mp (by rw [q]; rfl)); have i_3 : ¬ (p1).toInt = 3 := fun q => c_1_3 (Int32.toInt_inj.mp (by rw [q]; rfl)); have i_4 : ¬ (p1).toInt = 4 := fun q => c_1_4 (Int32.toInt_inj.mp (by rw [q]; rfl)); have i_5 : ¬ (p1).toInt = 5 := fun q => c_1_5 (Int32.toInt_inj.mp (by rw [q]; rfl)); have i_6 : ¬ (p1).toInt = 6 := fun q => c_1_6 (Int32.toInt_inj.mp (by rw [q]; rfl)); have i_7 : ¬ (p1).toInt = 7 := fun q => c_1_7 (Int32.toInt_inj.mp (by rw [q]; rfl)); have i_8 : ¬ (p1).toInt = 8 := fun q => c_1_8 (Int32.toInt_inj.mp (by rw [q]; rfl)); have i_9 : ¬ (p1).toInt = 9 := fun q => c_1_9 (Int32.toInt_inj.mp (by rw [q]; rfl)); have i_10 : ¬ (p1).toInt = 10 := fun q => c_1_10 (Int32.toInt_inj.mp (by rw [q]; rfl)); omega) (by decide) ?_
  refine lv_bipush (v := 71) hx hb dX12_keyLetter_93 (by decide) ?_
  exact ret _ _ _ _ _ rfl dX12_keyLetter_95 V hw
theorem hdX12_keysOf : yX12_keysOf.cls ≠ "java/lang/invoke/MethodHandle" ∧ yX12_keysOf.cls ≠ "java/lang/invoke/VarHandle" ∧ (parseMethodDescriptor yX12_keysOf.desc).map (fun d => d.parameters.length) = some 1 := by decide +kernel
def wX12_keysOf_4 (p1 : Int32) (P : Int32 → Prop) : Nat → Int32 → Int32 → Prop
  | 0, _, _ => False
  | n + 1, v1, v2 => (12 ≤ v2 → P v1) ∧ (¬ (12 ≤ v2) → ∀ v1_17 : Int32, v1_17 = (v1 + ((p1 >>> (v2 &&& 31)) &&& 1)) → (wX12_keysOf_4 p1 P n) v1_17 (v2 + 1))
def wX12_keysOf (p1 : Int32) (P : Int32 → Prop) : Prop := ∃ n_4, wX12_keysOf_4 p1 P n_4 0 0
set_option maxHeartbeats 4000000 in
set_option maxRecDepth 100000 in
theorem kX12_keysOf (l : Launch) (g : kT) (p1 : Int32) (P : Int32 → Prop) (hw : wX12_keysOf p1 P) : Ki0 l g yX12_keysOf wsX12_keysOf 0 0 0 0 [.int p1] [] P [] := by
  refine Ki0.mk (cc := cX12_keysOf) (nL := 3) (ty := .int) (by decide +kernel) rfl (Nat.le_of_ble_eq_true rfl) ?_
  intro p e s m below meth c A Q ls F hl V ret
  have hx := F.x
  have hb := F.b
  have hl : lv_has ls 3 [(0, .int p1)] := hl
  have B4 :  ∀ (n : Nat), ∀ {H : Heap} {locs : List Loc} {ls : Array Slot} (v1 : Int32) (v2 : Int32) (V : VW g A s.heap H locs []) (hl : lv_has ls 3 [(0, .int p1), (1, .int v1), (2, .int v2)]) (hw : wX12_keysOf_4 p1 P n v1 v2), W p l e (kR 0 0 0 0) s m ([.int p1] : List Value).toArray below meth c H locs 0 0 Q (F0 m 4 ls []) := by
    intro n
    induction n with
    | zero => intro _ _ _ _ _ V hl hw; exact hw.elim
    | succ n ih =>
      intro H locs ls v1 v2 V hl hw
      refine lv_iload_n hx hb dX12_keysOf_4 rfl (lv_at hl 2 rfl) ?_
      refine lv_bipush (v := 12) hx hb dX12_keysOf_5 (by decide) ?_
      refine lv_icmp_ge (tgt := 24) hx hb dX12_keysOf_7 (by decide) (fun c_7 => ?_) (fun c_7 => ?_)
      · have hw := hw.1 c_7
        refine lv_iload_n hx hb dX12_keysOf_24 rfl (lv_at hl 1 rfl) ?_
        exact ret _ _ _ _ _ rfl dX12_keysOf_25 V hw
      · have hw := hw.2 c_7
        refine lv_iload_n hx hb dX12_keysOf_10 rfl (lv_at hl 1 rfl) ?_
        refine lv_iload_n hx hb dX12_keysOf_11 rfl (lv_at hl 0 rfl) ?_
        refine lv_iload_n hx hb dX12_keysOf_12 rfl (lv_at hl 2 rfl) ?_
        refine lv_ishr hx hb dX12_keysOf_13 ?_
        refine lv_iconst (v := 1) hx hb dX12_keysOf_14 (by decide) ?_
        refine lv_iand hx hb dX12_keysOf_15 ?_
        refine lv_iadd hx hb dX12_keysOf_16 ?_
        refine lv_topi (fun v1_17 ev1_17 => ?_)
        have hw := hw v1_17 ev1_17
        refine lv_istore_n (lv' := [(1, .int v1_17), (0, .int p1), (2, .int v2)]) hx hb dX12_keysOf_17 rfl hl (by decide) rfl (fun ls hl => ?_)
        refine lv_iinc (v := v2 + 1) (lv' := [(2, .int (v2 + 1)), (1, .int v1_17), (0, .int p1)]) hx hb dX12_keysOf_18 hl (k := 2) rfl rfl (by decide) rfl (fun ls hl => ?_)
        refine lv_goto (tgt := 4) hx hb dX12_keysOf_21 (by decide) ?_
        exact ih v1_17 (v2 + 1) V (lv_sub hl [2, 1, 0] rfl) hw
  refine lv_iconst (v := 0) hx hb dX12_keysOf_0 (by decide) ?_
  refine lv_istore_n (lv' := [(1, .int 0), (0, .int p1)]) hx hb dX12_keysOf_1 rfl hl (by decide) rfl (fun ls hl => ?_)
  refine lv_iconst (v := 0) hx hb dX12_keysOf_2 (by decide) ?_
  refine lv_istore_n (lv' := [(2, .int 0), (1, .int 0), (0, .int p1)]) hx hb dX12_keysOf_3 rfl hl (by decide) rfl (fun ls hl => ?_)
  obtain ⟨n_4, hw⟩ := hw
  exact B4  n_4 0 0 V (lv_sub hl [2, 1, 0] rfl) hw
theorem hdX12_isIn : yX12_isIn.cls = RX12 ∧ yX12_isIn.cls ≠ "java/lang/invoke/MethodHandle" ∧ yX12_isIn.cls ≠ "java/lang/invoke/VarHandle" ∧ (parseMethodDescriptor yX12_isIn.desc).map (fun d => d.parameters.length) = some 3 := by decide +kernel
theorem fX12_isIn_7 : Cond.fieldLink RX12 7 RX12 "z" "[I" ∈ wsX12_isIn := by decide +kernel
theorem iX12_isIn_X12 : ∀ w ∈ u_ws RX12 TX12 14, w ∈ wsX12_isIn := by decide +kernel
def wX12_isIn_90 (z : Nat → Int32) (p1 : Int32) (p2 : Int32) (p3 : Int32) (K33 : Int32 → Int32 → Prop) (P : Int32 → Prop) (v5 : Int32) (s0 : Int32) : Prop := K33 s0 (v5 + 1)
def wX12_isIn_33 (z : Nat → Int32) (p1 : Int32) (p2 : Int32) (p3 : Int32) (P : Int32 → Prop) : Nat → Int32 → Int32 → Prop
  | 0, _, _ => False
  | n + 1, v4, v5 => wX12_entryAt p3 (fun r_40 => vp_in r_40 1317 ∧ ((z r_40.toNatClampNeg) ≤ v5 → (v4 = 0 ∨ v4 = 1) ∧ P v4) ∧ (¬ ((z r_40.toNatClampNeg) ≤ v5) → (v4 = 0 → (v4 = 0 ∨ v4 = 1) ∧ P v4) ∧ (¬ (v4 = 0) → wX12_entryAt p1 (fun r_57 => vp_in (((r_57 + 1) + p2) + v5) 1317 ∧ wX12_entryAt p3 (fun r_73 => vp_in ((r_73 + 1) + v5) 1317 ∧ (¬ (z (((r_57 + 1) + p2) + v5).toNatClampNeg) = (z ((r_73 + 1) + v5).toNatClampNeg) → wX12_isIn_90 z p1 p2 p3 (wX12_isIn_33 z p1 p2 p3 P n) P v5 0) ∧ ((z (((r_57 + 1) + p2) + v5).toNatClampNeg) = (z ((r_73 + 1) + v5).toNatClampNeg) → wX12_isIn_90 z p1 p2 p3 (wX12_isIn_33 z p1 p2 p3 P n) P v5 1))))))
def wX12_isIn_28 (z : Nat → Int32) (p1 : Int32) (p2 : Int32) (p3 : Int32) (P : Int32 → Prop) (s0 : Int32) : Prop := ∃ n_33, wX12_isIn_33 z p1 p2 p3 P n_33 s0 0
def wX12_isIn (z : Nat → Int32) (p1 : Int32) (p2 : Int32) (p3 : Int32) (P : Int32 → Prop) : Prop := wX12_entryAt p3 (fun r_6 => vp_in r_6 1317 ∧ wX12_entryAt p1 (fun r_16 => vp_in r_16 1317 ∧ ((z r_16.toNatClampNeg) < (p2 + (z r_6.toNatClampNeg)) → wX12_isIn_28 z p1 p2 p3 P 0) ∧ (¬ ((z r_16.toNatClampNeg) < (p2 + (z r_6.toNatClampNeg))) → wX12_isIn_28 z p1 p2 p3 P 1)))
set_option maxHeartbeats 4000000 in
set_option maxRecDepth 100000 in
theorem kX12_isIn (l : Launch) (g : kT) (a_this : Nat) (a_this_z : Nat) (a_this_saved : Nat) (a_this_text : Nat) (a_this_line : Nat) (a_this_aside : Nat) (a_this_read : Nat) (a_this_fewest : Nat) (thrown : Int32) (z : Nat → Int32) (saves : Int32) (saved : Nat → Int32) (length : Int32) (text : Nat → Int32) (many : Int32) (line : Nat → Int32) (aside : Nat → Int32) (isWord : Int32) (entries : Int32) (rdA : Nat → Int32) (fewest : Nat → Int32) (h : Int64) (p1 : Int32) (p2 : Int32) (p3 : Int32) (P : Int32 → Prop) (hw : wX12_isIn z p1 p2 p3 P) : Ki0 l g yX12_isIn wsX12_isIn 1 20 0 0 [.ref a_this, .int p1, .int p2, .int p3] (gX12 g a_this a_this_z a_this_saved a_this_text a_this_line a_this_aside a_this_read a_this_fewest thrown z saves saved length text many line aside isWord entries rdA fewest h) P (gX12 g a_this a_this_z a_this_saved a_this_text a_this_line a_this_aside a_this_read a_this_fewest thrown z saves saved length text many line aside isWord entries rdA fewest h) := by
  refine Ki0.mk (cc := cX12_isIn) (nL := 6) (ty := .boolean) (by decide +kernel) rfl (Nat.le_of_ble_eq_true rfl) ?_
  intro p e s m below meth c A Q ls F hl V ret
  have hx := F.x
  have hb := F.b
  have hl : lv_has ls 6 [(0, .ref a_this), (1, .int p1), (2, .int p2), (3, .int p3)] := hl
  have B90 : ∀ (K33 : Int32 → Int32 → Prop) (k33 : ∀ {H : Heap} {locs : List Loc} {ls : Array Slot} (v4 : Int32) (v5 : Int32), VW g A s.heap H locs (gX12 g a_this a_this_z a_this_saved a_this_text a_this_line a_this_aside a_this_read a_this_fewest thrown z saves saved length text many line aside isWord entries rdA fewest h) → lv_has ls 6 [(0, .ref a_this), (1, .int p1), (2, .int p2), (3, .int p3), (4, .int v4), (5, .int v5)] → K33 v4 v5 → W p l e (kR 1 20 0 0) s m ([.ref a_this, .int p1, .int p2, .int p3] : List Value).toArray below meth c H locs 0 0 Q (F0 m 33 ls [])), ∀ {H : Heap} {locs : List Loc} {ls : Array Slot} (v5 : Int32) (s0 : Int32) (V : VW g A s.heap H locs (gX12 g a_this a_this_z a_this_saved a_this_text a_this_line a_this_aside a_this_read a_this_fewest thrown z saves saved length text many line aside isWord entries rdA fewest h)) (hl : lv_has ls 6 [(0, .ref a_this), (1, .int p1), (2, .int p2), (3, .int p3), (5, .int v5)]) (hw : wX12_isIn_90 z p1 p2 p3 K33 P v5 s0), W p l e (kR 1 20 0 0) s m ([.ref a_this, .int p1, .int p2, .int p3] : List Value).toArray below meth c H locs 0 0 Q (F0 m 90 ls [.int s0]) := by
    intro K33 k33 H locs ls v5 s0 V hl hw
    refine lv_istore (lv' := [(4, .int s0), (0, .ref a_this), (1, .int p1), (2, .int p2), (3, .int p3), (5, .int v5)]) hx hb dX12_isIn_90 hl (by decide) rfl (fun ls hl => ?_)
    refine lv_iinc (v := v5 + 1) (lv' := [(5, .int (v5 + 1)), (4, .int s0), (0, .ref a_this), (1, .int p1), (2, .int p2), (3, .int p3)]) hx hb dX12_isIn_92 hl (k := 5) rfl rfl (by decide) rfl (fun ls hl => ?_)
    refine lv_goto (tgt := 33) hx hb dX12_isIn_95 (by decide) ?_
    exact k33 s0 (v5 + 1) V (lv_sub hl [2, 3, 4, 5, 1, 0] rfl) hw
  have B33 :  ∀ (n : Nat), ∀ {H : Heap} {locs : List Loc} {ls : Array Slot} (v4 : Int32) (v5 : Int32) (V : VW g A s.heap H locs (gX12 g a_this a_this_z a_this_saved a_this_text a_this_line a_this_aside a_this_read a_this_fewest thrown z saves saved length text many line aside isWord entries rdA fewest h)) (hl : lv_has ls 6 [(0, .ref a_this), (1, .int p1), (2, .int p2), (3, .int p3), (4, .int v4), (5, .int v5)]) (hw : wX12_isIn_33 z p1 p2 p3 P n v4 v5), W p l e (kR 1 20 0 0) s m ([.ref a_this, .int p1, .int p2, .int p3] : List Value).toArray below meth c H locs 0 0 Q (F0 m 33 ls []) := by
    intro n
    induction n with
    | zero => intro _ _ _ _ _ V hl hw; exact hw.elim
    | succ n ih =>
      intro H locs ls v4 v5 V hl hw
      refine lv_iload hx hb dX12_isIn_33 (lv_at hl 5 rfl) ?_
      refine lv_aload_n hx hb dX12_isIn_35 rfl (lv_at hl 0 rfl) ?_
      refine kget F V 8 1 0 rfl rfl iX12_isIn_X12 fX12_isIn_7 (by decide) rfl rfl dX12_isIn_36 ?_
      refine lv_iload_n hx hb dX12_isIn_39 rfl (lv_at hl 3 rfl) ?_
      refine kSi0n (rest := [.ref a_this_z, .int v5]) F hl V (kX12_entryAt l g p3 _ hw) gX12_isIn_X12_entryAt rfl 1 rfl hdX12_entryAt ⟨Nat.le_of_ble_eq_true rfl, Nat.le_of_ble_eq_true rfl⟩ ⟨Nat.le_of_ble_eq_true rfl, Nat.le_of_ble_eq_true rfl⟩ (Nat.le_of_ble_eq_true rfl) rfl dX12_isIn_40 (fun r_40 H locs hw V => ?_)
      refine kiald F V 1 rfl hw.1 dX12_isIn_43 ?_
      have hw := hw.2
      refine lv_icmp_ge (tgt := 98) hx hb dX12_isIn_44 (by decide) (fun c_44 => ?_) (fun c_44 => ?_)
      · have hw := hw.1 c_44
        refine lv_iload hx hb dX12_isIn_98 (lv_at hl 4 rfl) ?_
        exact ret _ _ _ _ _ (k01n hw.1) dX12_isIn_100 V hw.2
      · have hw := hw.2 c_44
        refine lv_iload hx hb dX12_isIn_47 (lv_at hl 4 rfl) ?_
        refine lv_if_eq (tgt := 98) hx hb dX12_isIn_49 (by decide) (fun c_49 => ?_) (fun c_49 => ?_)
        · have hw := hw.1 c_49
          refine lv_iload hx hb dX12_isIn_98 (lv_at hl 4 rfl) ?_
          exact ret _ _ _ _ _ (k01n hw.1) dX12_isIn_100 V hw.2
        · have hw := hw.2 c_49
          refine lv_aload_n hx hb dX12_isIn_52 rfl (lv_at hl 0 rfl) ?_
          refine kget F V 8 1 0 rfl rfl iX12_isIn_X12 fX12_isIn_7 (by decide) rfl rfl dX12_isIn_53 ?_
          refine lv_iload_n hx hb dX12_isIn_56 rfl (lv_at hl 1 rfl) ?_
          refine kSi0n (rest := [.ref a_this_z]) F hl V (kX12_entryAt l g p1 _ hw) gX12_isIn_X12_entryAt rfl 1 rfl hdX12_entryAt ⟨Nat.le_of_ble_eq_true rfl, Nat.le_of_ble_eq_true rfl⟩ ⟨Nat.le_of_ble_eq_true rfl, Nat.le_of_ble_eq_true rfl⟩ (Nat.le_of_ble_eq_true rfl) rfl dX12_isIn_57 (fun r_57 H locs hw V => ?_)
          refine lv_iconst (v := 1) hx hb dX12_isIn_60 (by decide) ?_
          refine lv_iadd hx hb dX12_isIn_61 ?_
          refine lv_iload_n hx hb dX12_isIn_62 rfl (lv_at hl 2 rfl) ?_
          refine lv_iadd hx hb dX12_isIn_63 ?_
          refine lv_iload hx hb dX12_isIn_64 (lv_at hl 5 rfl) ?_
          refine lv_iadd hx hb dX12_isIn_66 ?_
          refine kiald F V 1 rfl hw.1 dX12_isIn_67 ?_
          have hw := hw.2
          refine lv_aload_n hx hb dX12_isIn_68 rfl (lv_at hl 0 rfl) ?_
          refine kget F V 8 1 0 rfl rfl iX12_isIn_X12 fX12_isIn_7 (by decide) rfl rfl dX12_isIn_69 ?_
          refine lv_iload_n hx hb dX12_isIn_72 rfl (lv_at hl 3 rfl) ?_
          refine kSi0n (rest := [.ref a_this_z, .int (z (((r_57 + 1) + p2) + v5).toNatClampNeg)]) F hl V (kX12_entryAt l g p3 _ hw) gX12_isIn_X12_entryAt rfl 1 rfl hdX12_entryAt ⟨Nat.le_of_ble_eq_true rfl, Nat.le_of_ble_eq_true rfl⟩ ⟨Nat.le_of_ble_eq_true rfl, Nat.le_of_ble_eq_true rfl⟩ (Nat.le_of_ble_eq_true rfl) rfl dX12_isIn_73 (fun r_73 H locs hw V => ?_)
          refine lv_iconst (v := 1) hx hb dX12_isIn_76 (by decide) ?_
          refine lv_iadd hx hb dX12_isIn_77 ?_
          refine lv_iload hx hb dX12_isIn_78 (lv_at hl 5 rfl) ?_
          refine lv_iadd hx hb dX12_isIn_80 ?_
          refine kiald F V 1 rfl hw.1 dX12_isIn_81 ?_
          have hw := hw.2
          refine lv_icmp_ne (tgt := 89) hx hb dX12_isIn_82 (by decide) (fun c_82 => ?_) (fun c_82 => ?_)
          · have hw := hw.1 c_82
            refine lv_iconst (v := 0) hx hb dX12_isIn_89 (by decide) ?_
            exact B90 (wX12_isIn_33 z p1 p2 p3 P n) ih v5 0 V (lv_sub hl [0, 1, 2, 3, 5] rfl) hw
          · have hw := hw.2 c_82
            refine lv_iconst (v := 1) hx hb dX12_isIn_85 (by decide) ?_
            refine lv_goto (tgt := 90) hx hb dX12_isIn_86 (by decide) ?_
            exact B90 (wX12_isIn_33 z p1 p2 p3 P n) ih v5 1 V (lv_sub hl [0, 1, 2, 3, 5] rfl) hw
  have B28 :  ∀ {H : Heap} {locs : List Loc} {ls : Array Slot} (s0 : Int32) (V : VW g A s.heap H locs (gX12 g a_this a_this_z a_this_saved a_this_text a_this_line a_this_aside a_this_read a_this_fewest thrown z saves saved length text many line aside isWord entries rdA fewest h)) (hl : lv_has ls 6 [(0, .ref a_this), (1, .int p1), (2, .int p2), (3, .int p3)]) (hw : wX12_isIn_28 z p1 p2 p3 P s0), W p l e (kR 1 20 0 0) s m ([.ref a_this, .int p1, .int p2, .int p3] : List Value).toArray below meth c H locs 0 0 Q (F0 m 28 ls [.int s0]) := by
    intro  H locs ls s0 V hl hw
    refine lv_istore (lv' := [(4, .int s0), (0, .ref a_this), (1, .int p1), (2, .int p2), (3, .int p3)]) hx hb dX12_isIn_28 hl (by decide) rfl (fun ls hl => ?_)
    refine lv_iconst (v := 0) hx hb dX12_isIn_30 (by decide) ?_
    refine lv_istore (lv' := [(5, .int 0), (4, .int s0), (0, .ref a_this), (1, .int p1), (2, .int p2), (3, .int p3)]) hx hb dX12_isIn_31 hl (by decide) rfl (fun ls hl => ?_)
    obtain ⟨n_33, hw⟩ := hw
    exact B33  n_33 s0 0 V (lv_sub hl [2, 3, 4, 5, 1, 0] rfl) hw
  refine lv_iload_n hx hb dX12_isIn_0 rfl (lv_at hl 2 rfl) ?_
  refine lv_aload_n hx hb dX12_isIn_1 rfl (lv_at hl 0 rfl) ?_
  refine kget F V 8 1 0 rfl rfl iX12_isIn_X12 fX12_isIn_7 (by decide) rfl rfl dX12_isIn_2 ?_
  refine lv_iload_n hx hb dX12_isIn_5 rfl (lv_at hl 3 rfl) ?_
  refine kSi0n (rest := [.ref a_this_z, .int p2]) F hl V (kX12_entryAt l g p3 _ hw) gX12_isIn_X12_entryAt rfl 1 rfl hdX12_entryAt ⟨Nat.le_of_ble_eq_true rfl, Nat.le_of_ble_eq_true rfl⟩ ⟨Nat.le_of_ble_eq_true rfl, Nat.le_of_ble_eq_true rfl⟩ (Nat.le_of_ble_eq_true rfl) rfl dX12_isIn_6 (fun r_6 H locs hw V => ?_)
  refine kiald F V 1 rfl hw.1 dX12_isIn_9 ?_
  have hw := hw.2
  refine lv_iadd hx hb dX12_isIn_10 ?_
  refine lv_aload_n hx hb dX12_isIn_11 rfl (lv_at hl 0 rfl) ?_
  refine kget F V 8 1 0 rfl rfl iX12_isIn_X12 fX12_isIn_7 (by decide) rfl rfl dX12_isIn_12 ?_
  refine lv_iload_n hx hb dX12_isIn_15 rfl (lv_at hl 1 rfl) ?_
  refine kSi0n (rest := [.ref a_this_z, .int (p2 + (z r_6.toNatClampNeg))]) F hl V (kX12_entryAt l g p1 _ hw) gX12_isIn_X12_entryAt rfl 1 rfl hdX12_entryAt ⟨Nat.le_of_ble_eq_true rfl, Nat.le_of_ble_eq_true rfl⟩ ⟨Nat.le_of_ble_eq_true rfl, Nat.le_of_ble_eq_true rfl⟩ (Nat.le_of_ble_eq_true rfl) rfl dX12_isIn_16 (fun r_16 H locs hw V => ?_)
  refine kiald F V 1 rfl hw.1 dX12_isIn_19 ?_
  have hw := hw.2
  refine lv_icmp_gt (tgt := 27) hx hb dX12_isIn_20 (by decide) (fun c_20 => ?_) (fun c_20 => ?_)
  · have hw := hw.1 c_20
    refine lv_iconst (v := 0) hx hb dX12_isIn_27 (by decide) ?_
    exact B28  0 V hl hw
  · have hw := hw.2 c_20
    refine lv_iconst (v := 1) hx hb dX12_isIn_23 (by decide) ?_
    refine lv_goto (tgt := 28) hx hb dX12_isIn_24 (by decide) ?_
    exact B28  1 V hl hw
theorem hdX12_isSameWord : yX12_isSameWord.cls = RX12 ∧ yX12_isSameWord.cls ≠ "java/lang/invoke/MethodHandle" ∧ yX12_isSameWord.cls ≠ "java/lang/invoke/VarHandle" ∧ (parseMethodDescriptor yX12_isSameWord.desc).map (fun d => d.parameters.length) = some 2 := by decide +kernel
theorem fX12_isSameWord_7 : Cond.fieldLink RX12 7 RX12 "z" "[I" ∈ wsX12_isSameWord := by decide +kernel
theorem iX12_isSameWord_X12 : ∀ w ∈ u_ws RX12 TX12 14, w ∈ wsX12_isSameWord := by decide +kernel
def wX12_isSameWord_92 (z : Nat → Int32) (p1 : Int32) (p2 : Int32) (K34 : Int32 → Int32 → Prop) (P : Int32 → Prop) (v4 : Int32) (s0 : Int32) : Prop := K34 s0 (v4 + 1)
def wX12_isSameWord_34 (z : Nat → Int32) (p1 : Int32) (p2 : Int32) (P : Int32 → Prop) : Nat → Int32 → Int32 → Prop
  | 0, _, _ => False
  | n + 1, v3, v4 => wX12_entryAt p1 (fun r_41 => vp_in (r_41 + 5) 1317 ∧ ((z (r_41 + 5).toNatClampNeg) ≤ v4 → (v3 = 0 ∨ v3 = 1) ∧ P v3) ∧ (¬ ((z (r_41 + 5).toNatClampNeg) ≤ v4) → (v3 = 0 → (v3 = 0 ∨ v3 = 1) ∧ P v3) ∧ (¬ (v3 = 0) → wX12_entryAt p1 (fun r_59 => vp_in ((r_59 + 6) + v4) 1317 ∧ wX12_entryAt p2 (fun r_74 => vp_in ((r_74 + 6) + v4) 1317 ∧ (¬ (z ((r_59 + 6) + v4).toNatClampNeg) = (z ((r_74 + 6) + v4).toNatClampNeg) → wX12_isSameWord_92 z p1 p2 (wX12_isSameWord_34 z p1 p2 P n) P v4 0) ∧ ((z ((r_59 + 6) + v4).toNatClampNeg) = (z ((r_74 + 6) + v4).toNatClampNeg) → wX12_isSameWord_92 z p1 p2 (wX12_isSameWord_34 z p1 p2 P n) P v4 1))))))
def wX12_isSameWord_30 (z : Nat → Int32) (p1 : Int32) (p2 : Int32) (P : Int32 → Prop) (s0 : Int32) : Prop := ∃ n_34, wX12_isSameWord_34 z p1 p2 P n_34 s0 0
def wX12_isSameWord (z : Nat → Int32) (p1 : Int32) (p2 : Int32) (P : Int32 → Prop) : Prop := wX12_entryAt p1 (fun r_5 => vp_in (r_5 + 5) 1317 ∧ wX12_entryAt p2 (fun r_16 => vp_in (r_16 + 5) 1317 ∧ (¬ (z (r_5 + 5).toNatClampNeg) = (z (r_16 + 5).toNatClampNeg) → wX12_isSameWord_30 z p1 p2 P 0) ∧ ((z (r_5 + 5).toNatClampNeg) = (z (r_16 + 5).toNatClampNeg) → wX12_isSameWord_30 z p1 p2 P 1)))
set_option maxHeartbeats 4000000 in
set_option maxRecDepth 100000 in
theorem kX12_isSameWord (l : Launch) (g : kT) (a_this : Nat) (a_this_z : Nat) (a_this_saved : Nat) (a_this_text : Nat) (a_this_line : Nat) (a_this_aside : Nat) (a_this_read : Nat) (a_this_fewest : Nat) (thrown : Int32) (z : Nat → Int32) (saves : Int32) (saved : Nat → Int32) (length : Int32) (text : Nat → Int32) (many : Int32) (line : Nat → Int32) (aside : Nat → Int32) (isWord : Int32) (entries : Int32) (rdA : Nat → Int32) (fewest : Nat → Int32) (h : Int64) (p1 : Int32) (p2 : Int32) (P : Int32 → Prop) (hw : wX12_isSameWord z p1 p2 P) : Ki0 l g yX12_isSameWord wsX12_isSameWord 1 20 0 0 [.ref a_this, .int p1, .int p2] (gX12 g a_this a_this_z a_this_saved a_this_text a_this_line a_this_aside a_this_read a_this_fewest thrown z saves saved length text many line aside isWord entries rdA fewest h) P (gX12 g a_this a_this_z a_this_saved a_this_text a_this_line a_this_aside a_this_read a_this_fewest thrown z saves saved length text many line aside isWord entries rdA fewest h) := by
  refine Ki0.mk (cc := cX12_isSameWord) (nL := 5) (ty := .boolean) (by decide +kernel) rfl (Nat.le_of_ble_eq_true rfl) ?_
  intro p e s m below meth c A Q ls F hl V ret
  have hx := F.x
  have hb := F.b
  have hl : lv_has ls 5 [(0, .ref a_this), (1, .int p1), (2, .int p2)] := hl
  have B92 : ∀ (K34 : Int32 → Int32 → Prop) (k34 : ∀ {H : Heap} {locs : List Loc} {ls : Array Slot} (v3 : Int32) (v4 : Int32), VW g A s.heap H locs (gX12 g a_this a_this_z a_this_saved a_this_text a_this_line a_this_aside a_this_read a_this_fewest thrown z saves saved length text many line aside isWord entries rdA fewest h) → lv_has ls 5 [(0, .ref a_this), (1, .int p1), (2, .int p2), (3, .int v3), (4, .int v4)] → K34 v3 v4 → W p l e (kR 1 20 0 0) s m ([.ref a_this, .int p1, .int p2] : List Value).toArray below meth c H locs 0 0 Q (F0 m 34 ls [])), ∀ {H : Heap} {locs : List Loc} {ls : Array Slot} (v4 : Int32) (s0 : Int32) (V : VW g A s.heap H locs (gX12 g a_this a_this_z a_this_saved a_this_text a_this_line a_this_aside a_this_read a_this_fewest thrown z saves saved length text many line aside isWord entries rdA fewest h)) (hl : lv_has ls 5 [(0, .ref a_this), (1, .int p1), (2, .int p2), (4, .int v4)]) (hw : wX12_isSameWord_92 z p1 p2 K34 P v4 s0), W p l e (kR 1 20 0 0) s m ([.ref a_this, .int p1, .int p2] : List Value).toArray below meth c H locs 0 0 Q (F0 m 92 ls [.int s0]) := by
    intro K34 k34 H locs ls v4 s0 V hl hw
    refine lv_istore_n (lv' := [(3, .int s0), (0, .ref a_this), (1, .int p1), (2, .int p2), (4, .int v4)]) hx hb dX12_isSameWord_92 rfl hl (by decide) rfl (fun ls hl => ?_)
    refine lv_iinc (v := v4 + 1) (lv' := [(4, .int (v4 + 1)), (3, .int s0), (0, .ref a_this), (1, .int p1), (2, .int p2)]) hx hb dX12_isSameWord_93 hl (k := 4) rfl rfl (by decide) rfl (fun ls hl => ?_)
    refine lv_goto (tgt := 34) hx hb dX12_isSameWord_96 (by decide) ?_
    exact k34 s0 (v4 + 1) V (lv_sub hl [2, 3, 4, 1, 0] rfl) hw
  have B34 :  ∀ (n : Nat), ∀ {H : Heap} {locs : List Loc} {ls : Array Slot} (v3 : Int32) (v4 : Int32) (V : VW g A s.heap H locs (gX12 g a_this a_this_z a_this_saved a_this_text a_this_line a_this_aside a_this_read a_this_fewest thrown z saves saved length text many line aside isWord entries rdA fewest h)) (hl : lv_has ls 5 [(0, .ref a_this), (1, .int p1), (2, .int p2), (3, .int v3), (4, .int v4)]) (hw : wX12_isSameWord_34 z p1 p2 P n v3 v4), W p l e (kR 1 20 0 0) s m ([.ref a_this, .int p1, .int p2] : List Value).toArray below meth c H locs 0 0 Q (F0 m 34 ls []) := by
    intro n
    induction n with
    | zero => intro _ _ _ _ _ V hl hw; exact hw.elim
    | succ n ih =>
      intro H locs ls v3 v4 V hl hw
      refine lv_iload hx hb dX12_isSameWord_34 (lv_at hl 4 rfl) ?_
      refine lv_aload_n hx hb dX12_isSameWord_36 rfl (lv_at hl 0 rfl) ?_
      refine kget F V 8 1 0 rfl rfl iX12_isSameWord_X12 fX12_isSameWord_7 (by decide) rfl rfl dX12_isSameWord_37 ?_
      refine lv_iload_n hx hb dX12_isSameWord_40 rfl (lv_at hl 1 rfl) ?_
      refine kSi0n (rest := [.ref a_this_z, .int v4]) F hl V (kX12_entryAt l g p1 _ hw) gX12_isSameWord_X12_entryAt rfl 1 rfl hdX12_entryAt ⟨Nat.le_of_ble_eq_true rfl, Nat.le_of_ble_eq_true rfl⟩ ⟨Nat.le_of_ble_eq_true rfl, Nat.le_of_ble_eq_true rfl⟩ (Nat.le_of_ble_eq_true rfl) rfl dX12_isSameWord_41 (fun r_41 H locs hw V => ?_)
      refine lv_iconst (v := 5) hx hb dX12_isSameWord_44 (by decide) ?_
      refine lv_iadd hx hb dX12_isSameWord_45 ?_
      refine kiald F V 1 rfl hw.1 dX12_isSameWord_46 ?_
      have hw := hw.2
      refine lv_icmp_ge (tgt := 99) hx hb dX12_isSameWord_47 (by decide) (fun c_47 => ?_) (fun c_47 => ?_)
      · have hw := hw.1 c_47
        refine lv_iload_n hx hb dX12_isSameWord_99 rfl (lv_at hl 3 rfl) ?_
        exact ret _ _ _ _ _ (k01n hw.1) dX12_isSameWord_100 V hw.2
      · have hw := hw.2 c_47
        refine lv_iload_n hx hb dX12_isSameWord_50 rfl (lv_at hl 3 rfl) ?_
        refine lv_if_eq (tgt := 99) hx hb dX12_isSameWord_51 (by decide) (fun c_51 => ?_) (fun c_51 => ?_)
        · have hw := hw.1 c_51
          refine lv_iload_n hx hb dX12_isSameWord_99 rfl (lv_at hl 3 rfl) ?_
          exact ret _ _ _ _ _ (k01n hw.1) dX12_isSameWord_100 V hw.2
        · have hw := hw.2 c_51
          refine lv_aload_n hx hb dX12_isSameWord_54 rfl (lv_at hl 0 rfl) ?_
          refine kget F V 8 1 0 rfl rfl iX12_isSameWord_X12 fX12_isSameWord_7 (by decide) rfl rfl dX12_isSameWord_55 ?_
          refine lv_iload_n hx hb dX12_isSameWord_58 rfl (lv_at hl 1 rfl) ?_
          refine kSi0n (rest := [.ref a_this_z]) F hl V (kX12_entryAt l g p1 _ hw) gX12_isSameWord_X12_entryAt rfl 1 rfl hdX12_entryAt ⟨Nat.le_of_ble_eq_true rfl, Nat.le_of_ble_eq_true rfl⟩ ⟨Nat.le_of_ble_eq_true rfl, Nat.le_of_ble_eq_true rfl⟩ (Nat.le_of_ble_eq_true rfl) rfl dX12_isSameWord_59 (fun r_59 H locs hw V => ?_)
          refine lv_bipush (v := 6) hx hb dX12_isSameWord_62 (by decide) ?_
          refine lv_iadd hx hb dX12_isSameWord_64 ?_
          refine lv_iload hx hb dX12_isSameWord_65 (lv_at hl 4 rfl) ?_
          refine lv_iadd hx hb dX12_isSameWord_67 ?_
          refine kiald F V 1 rfl hw.1 dX12_isSameWord_68 ?_
          have hw := hw.2
          refine lv_aload_n hx hb dX12_isSameWord_69 rfl (lv_at hl 0 rfl) ?_
          refine kget F V 8 1 0 rfl rfl iX12_isSameWord_X12 fX12_isSameWord_7 (by decide) rfl rfl dX12_isSameWord_70 ?_
          refine lv_iload_n hx hb dX12_isSameWord_73 rfl (lv_at hl 2 rfl) ?_
          refine kSi0n (rest := [.ref a_this_z, .int (z ((r_59 + 6) + v4).toNatClampNeg)]) F hl V (kX12_entryAt l g p2 _ hw) gX12_isSameWord_X12_entryAt rfl 1 rfl hdX12_entryAt ⟨Nat.le_of_ble_eq_true rfl, Nat.le_of_ble_eq_true rfl⟩ ⟨Nat.le_of_ble_eq_true rfl, Nat.le_of_ble_eq_true rfl⟩ (Nat.le_of_ble_eq_true rfl) rfl dX12_isSameWord_74 (fun r_74 H locs hw V => ?_)
          refine lv_bipush (v := 6) hx hb dX12_isSameWord_77 (by decide) ?_
          refine lv_iadd hx hb dX12_isSameWord_79 ?_
          refine lv_iload hx hb dX12_isSameWord_80 (lv_at hl 4 rfl) ?_
          refine lv_iadd hx hb dX12_isSameWord_82 ?_
          refine kiald F V 1 rfl hw.1 dX12_isSameWord_83 ?_
          have hw := hw.2
          refine lv_icmp_ne (tgt := 91) hx hb dX12_isSameWord_84 (by decide) (fun c_84 => ?_) (fun c_84 => ?_)
          · have hw := hw.1 c_84
            refine lv_iconst (v := 0) hx hb dX12_isSameWord_91 (by decide) ?_
            exact B92 (wX12_isSameWord_34 z p1 p2 P n) ih v4 0 V (lv_sub hl [0, 1, 2, 4] rfl) hw
          · have hw := hw.2 c_84
            refine lv_iconst (v := 1) hx hb dX12_isSameWord_87 (by decide) ?_
            refine lv_goto (tgt := 92) hx hb dX12_isSameWord_88 (by decide) ?_
            exact B92 (wX12_isSameWord_34 z p1 p2 P n) ih v4 1 V (lv_sub hl [0, 1, 2, 4] rfl) hw
  have B30 :  ∀ {H : Heap} {locs : List Loc} {ls : Array Slot} (s0 : Int32) (V : VW g A s.heap H locs (gX12 g a_this a_this_z a_this_saved a_this_text a_this_line a_this_aside a_this_read a_this_fewest thrown z saves saved length text many line aside isWord entries rdA fewest h)) (hl : lv_has ls 5 [(0, .ref a_this), (1, .int p1), (2, .int p2)]) (hw : wX12_isSameWord_30 z p1 p2 P s0), W p l e (kR 1 20 0 0) s m ([.ref a_this, .int p1, .int p2] : List Value).toArray below meth c H locs 0 0 Q (F0 m 30 ls [.int s0]) := by
    intro  H locs ls s0 V hl hw
    refine lv_istore_n (lv' := [(3, .int s0), (0, .ref a_this), (1, .int p1), (2, .int p2)]) hx hb dX12_isSameWord_30 rfl hl (by decide) rfl (fun ls hl => ?_)
    refine lv_iconst (v := 0) hx hb dX12_isSameWord_31 (by decide) ?_
    refine lv_istore (lv' := [(4, .int 0), (3, .int s0), (0, .ref a_this), (1, .int p1), (2, .int p2)]) hx hb dX12_isSameWord_32 hl (by decide) rfl (fun ls hl => ?_)
    obtain ⟨n_34, hw⟩ := hw
    exact B34  n_34 s0 0 V (lv_sub hl [2, 3, 4, 1, 0] rfl) hw
  refine lv_aload_n hx hb dX12_isSameWord_0 rfl (lv_at hl 0 rfl) ?_
  refine kget F V 8 1 0 rfl rfl iX12_isSameWord_X12 fX12_isSameWord_7 (by decide) rfl rfl dX12_isSameWord_1 ?_
  refine lv_iload_n hx hb dX12_isSameWord_4 rfl (lv_at hl 1 rfl) ?_
  refine kSi0n (rest := [.ref a_this_z]) F hl V (kX12_entryAt l g p1 _ hw) gX12_isSameWord_X12_entryAt rfl 1 rfl hdX12_entryAt ⟨Nat.le_of_ble_eq_true rfl, Nat.le_of_ble_eq_true rfl⟩ ⟨Nat.le_of_ble_eq_true rfl, Nat.le_of_ble_eq_true rfl⟩ (Nat.le_of_ble_eq_true rfl) rfl dX12_isSameWord_5 (fun r_5 H locs hw V => ?_)
  refine lv_iconst (v := 5) hx hb dX12_isSameWord_8 (by decide) ?_
  refine lv_iadd hx hb dX12_isSameWord_9 ?_
  refine kiald F V 1 rfl hw.1 dX12_isSameWord_10 ?_
  have hw := hw.2
  refine lv_aload_n hx hb dX12_isSameWord_11 rfl (lv_at hl 0 rfl) ?_
  refine kget F V 8 1 0 rfl rfl iX12_isSameWord_X12 fX12_isSameWord_7 (by decide) rfl rfl dX12_isSameWord_12 ?_
  refine lv_iload_n hx hb dX12_isSameWord_15 rfl (lv_at hl 2 rfl) ?_
  refine kSi0n (rest := [.ref a_this_z, .int (z (r_5 + 5).toNatClampNeg)]) F hl V (kX12_entryAt l g p2 _ hw) gX12_isSameWord_X12_entryAt rfl 1 rfl hdX12_entryAt ⟨Nat.le_of_ble_eq_true rfl, Nat.le_of_ble_eq_true rfl⟩ ⟨Nat.le_of_ble_eq_true rfl, Nat.le_of_ble_eq_true rfl⟩ (Nat.le_of_ble_eq_true rfl) rfl dX12_isSameWord_16 (fun r_16 H locs hw V => ?_)
  refine lv_iconst (v := 5) hx hb dX12_isSameWord_19 (by decide) ?_
  refine lv_iadd hx hb dX12_isSameWord_20 ?_
  refine kiald F V 1 rfl hw.1 dX12_isSameWord_21 ?_
  have hw := hw.2
  refine lv_icmp_ne (tgt := 29) hx hb dX12_isSameWord_22 (by decide) (fun c_22 => ?_) (fun c_22 => ?_)
  · have hw := hw.1 c_22
    refine lv_iconst (v := 0) hx hb dX12_isSameWord_29 (by decide) ?_
    exact B30  0 V hl hw
  · have hw := hw.2 c_22
    refine lv_iconst (v := 1) hx hb dX12_isSameWord_25 (by decide) ?_
    refine lv_goto (tgt := 30) hx hb dX12_isSameWord_26 (by decide) ?_
    exact B30  1 V hl hw
theorem hdX12_isTwo : yX12_isTwo.cls = RX12 ∧ yX12_isTwo.cls ≠ "java/lang/invoke/MethodHandle" ∧ yX12_isTwo.cls ≠ "java/lang/invoke/VarHandle" ∧ (parseMethodDescriptor yX12_isTwo.desc).map (fun d => d.parameters.length) = some 1 := by decide +kernel
theorem fX12_isTwo_7 : Cond.fieldLink RX12 7 RX12 "z" "[I" ∈ wsX12_isTwo := by decide +kernel
theorem iX12_isTwo_X12 : ∀ w ∈ u_ws RX12 TX12 14, w ∈ wsX12_isTwo := by decide +kernel
def wX12_isTwo_95 (z : Nat → Int32) (p1 : Int32) (K4 : Int32 → Int32 → Prop) (K17 : Int32 → Int32 → Int32 → Prop) (P : Int32 → Prop) (v3 : Int32) (v4 : Int32) (s0 : Int32) : Prop := K17 s0 v3 (v4 + 1)
def wX12_isTwo_94 (z : Nat → Int32) (p1 : Int32) (K4 : Int32 → Int32 → Prop) (K17 : Int32 → Int32 → Int32 → Prop) (P : Int32 → Prop) (v3 : Int32) (v4 : Int32) : Prop := wX12_isTwo_95 z p1 K4 K17 P v3 v4 0
def wX12_isTwo_90 (z : Nat → Int32) (p1 : Int32) (K4 : Int32 → Int32 → Prop) (K17 : Int32 → Int32 → Int32 → Prop) (P : Int32 → Prop) (v3 : Int32) (v4 : Int32) : Prop := wX12_isTwo_95 z p1 K4 K17 P v3 v4 1
def wX12_isTwo_17 (z : Nat → Int32) (p1 : Int32) (K4 : Int32 → Int32 → Prop) (P : Int32 → Prop) : Nat → Int32 → Int32 → Int32 → Prop
  | 0, _, _, _ => False
  | n + 1, v2, v3, v4 => vp_in 0 1317 ∧ ((z (0 : Int32).toNatClampNeg) ≤ v4 → K4 v2 (v3 + 1)) ∧ (¬ ((z (0 : Int32).toNatClampNeg) ≤ v4) → wX12_entryAt v3 (fun r_33 => vp_in r_33 1317 ∧ ∀ v5_37 : Int32, v5_37 = (z r_33.toNatClampNeg) → (¬ v2 = 0 → wX12_isTwo_90 z p1 K4 (wX12_isTwo_17 z p1 K4 P n) P v3 v4) ∧ (v2 = 0 → wX12_entryAt v4 (fun r_51 => vp_in r_51 1317 ∧ wX12_entryAt p1 (fun r_61 => vp_in r_61 1317 ∧ (¬ (v5_37 + (z r_51.toNatClampNeg)) = (z r_61.toNatClampNeg) → wX12_isTwo_94 z p1 K4 (wX12_isTwo_17 z p1 K4 P n) P v3 v4) ∧ ((v5_37 + (z r_51.toNatClampNeg)) = (z r_61.toNatClampNeg) → wX12_isIn z p1 0 v3 (fun r_72 => (r_72 = 0 → wX12_isTwo_94 z p1 K4 (wX12_isTwo_17 z p1 K4 P n) P v3 v4) ∧ (¬ (r_72 = 0) → wX12_isIn z p1 v5_37 v4 (fun r_84 => (r_84 = 0 → wX12_isTwo_94 z p1 K4 (wX12_isTwo_17 z p1 K4 P n) P v3 v4) ∧ (¬ (r_84 = 0) → wX12_isTwo_90 z p1 K4 (wX12_isTwo_17 z p1 K4 P n) P v3 v4))))))))))
def wX12_isTwo_4 (z : Nat → Int32) (p1 : Int32) (P : Int32 → Prop) : Nat → Int32 → Int32 → Prop
  | 0, _, _ => False
  | n + 1, v2, v3 => vp_in 0 1317 ∧ ((z (0 : Int32).toNatClampNeg) ≤ v3 → (v2 = 0 ∨ v2 = 1) ∧ P v2) ∧ (¬ ((z (0 : Int32).toNatClampNeg) ≤ v3) → ∃ n_17, wX12_isTwo_17 z p1 (wX12_isTwo_4 z p1 P n) P n_17 v2 v3 0)
def wX12_isTwo (z : Nat → Int32) (p1 : Int32) (P : Int32 → Prop) : Prop := ∃ n_4, wX12_isTwo_4 z p1 P n_4 0 0
set_option maxHeartbeats 4000000 in
set_option maxRecDepth 100000 in
theorem kX12_isTwo (l : Launch) (g : kT) (a_this : Nat) (a_this_z : Nat) (a_this_saved : Nat) (a_this_text : Nat) (a_this_line : Nat) (a_this_aside : Nat) (a_this_read : Nat) (a_this_fewest : Nat) (thrown : Int32) (z : Nat → Int32) (saves : Int32) (saved : Nat → Int32) (length : Int32) (text : Nat → Int32) (many : Int32) (line : Nat → Int32) (aside : Nat → Int32) (isWord : Int32) (entries : Int32) (rdA : Nat → Int32) (fewest : Nat → Int32) (h : Int64) (p1 : Int32) (P : Int32 → Prop) (hw : wX12_isTwo z p1 P) : Ki0 l g yX12_isTwo wsX12_isTwo 2 45 0 0 [.ref a_this, .int p1] (gX12 g a_this a_this_z a_this_saved a_this_text a_this_line a_this_aside a_this_read a_this_fewest thrown z saves saved length text many line aside isWord entries rdA fewest h) P (gX12 g a_this a_this_z a_this_saved a_this_text a_this_line a_this_aside a_this_read a_this_fewest thrown z saves saved length text many line aside isWord entries rdA fewest h) := by
  refine Ki0.mk (cc := cX12_isTwo) (nL := 6) (ty := .boolean) (by decide +kernel) rfl (Nat.le_of_ble_eq_true rfl) ?_
  intro p e s m below meth c A Q ls F hl V ret
  have hx := F.x
  have hb := F.b
  have hl : lv_has ls 6 [(0, .ref a_this), (1, .int p1)] := hl
  have B95 : ∀ (K4 : Int32 → Int32 → Prop) (k4 : ∀ {H : Heap} {locs : List Loc} {ls : Array Slot} (v2 : Int32) (v3 : Int32), VW g A s.heap H locs (gX12 g a_this a_this_z a_this_saved a_this_text a_this_line a_this_aside a_this_read a_this_fewest thrown z saves saved length text many line aside isWord entries rdA fewest h) → lv_has ls 6 [(0, .ref a_this), (1, .int p1), (2, .int v2), (3, .int v3)] → K4 v2 v3 → W p l e (kR 2 45 0 0) s m ([.ref a_this, .int p1] : List Value).toArray below meth c H locs 0 0 Q (F0 m 4 ls [])) (K17 : Int32 → Int32 → Int32 → Prop) (k17 : ∀ {H : Heap} {locs : List Loc} {ls : Array Slot} (v2 : Int32) (v3 : Int32) (v4 : Int32), VW g A s.heap H locs (gX12 g a_this a_this_z a_this_saved a_this_text a_this_line a_this_aside a_this_read a_this_fewest thrown z saves saved length text many line aside isWord entries rdA fewest h) → lv_has ls 6 [(0, .ref a_this), (1, .int p1), (2, .int v2), (3, .int v3), (4, .int v4)] → K17 v2 v3 v4 → W p l e (kR 2 45 0 0) s m ([.ref a_this, .int p1] : List Value).toArray below meth c H locs 0 0 Q (F0 m 17 ls [])), ∀ {H : Heap} {locs : List Loc} {ls : Array Slot} (v3 : Int32) (v4 : Int32) (s0 : Int32) (V : VW g A s.heap H locs (gX12 g a_this a_this_z a_this_saved a_this_text a_this_line a_this_aside a_this_read a_this_fewest thrown z saves saved length text many line aside isWord entries rdA fewest h)) (hl : lv_has ls 6 [(0, .ref a_this), (1, .int p1), (3, .int v3), (4, .int v4)]) (hw : wX12_isTwo_95 z p1 K4 K17 P v3 v4 s0), W p l e (kR 2 45 0 0) s m ([.ref a_this, .int p1] : List Value).toArray below meth c H locs 0 0 Q (F0 m 95 ls [.int s0]) := by
    intro K4 k4 K17 k17 H locs ls v3 v4 s0 V hl hw
    refine lv_istore_n (lv' := [(2, .int s0), (0, .ref a_this), (1, .int p1), (3, .int v3), (4, .int v4)]) hx hb dX12_isTwo_95 rfl hl (by decide) rfl (fun ls hl => ?_)
    refine lv_iinc (v := v4 + 1) (lv' := [(4, .int (v4 + 1)), (2, .int s0), (0, .ref a_this), (1, .int p1), (3, .int v3)]) hx hb dX12_isTwo_96 hl (k := 4) rfl rfl (by decide) rfl (fun ls hl => ?_)
    refine lv_goto (tgt := 17) hx hb dX12_isTwo_99 (by decide) ?_
    exact k17 s0 v3 (v4 + 1) V (lv_sub hl [2, 3, 1, 4, 0] rfl) hw
  have B94 : ∀ (K4 : Int32 → Int32 → Prop) (k4 : ∀ {H : Heap} {locs : List Loc} {ls : Array Slot} (v2 : Int32) (v3 : Int32), VW g A s.heap H locs (gX12 g a_this a_this_z a_this_saved a_this_text a_this_line a_this_aside a_this_read a_this_fewest thrown z saves saved length text many line aside isWord entries rdA fewest h) → lv_has ls 6 [(0, .ref a_this), (1, .int p1), (2, .int v2), (3, .int v3)] → K4 v2 v3 → W p l e (kR 2 45 0 0) s m ([.ref a_this, .int p1] : List Value).toArray below meth c H locs 0 0 Q (F0 m 4 ls [])) (K17 : Int32 → Int32 → Int32 → Prop) (k17 : ∀ {H : Heap} {locs : List Loc} {ls : Array Slot} (v2 : Int32) (v3 : Int32) (v4 : Int32), VW g A s.heap H locs (gX12 g a_this a_this_z a_this_saved a_this_text a_this_line a_this_aside a_this_read a_this_fewest thrown z saves saved length text many line aside isWord entries rdA fewest h) → lv_has ls 6 [(0, .ref a_this), (1, .int p1), (2, .int v2), (3, .int v3), (4, .int v4)] → K17 v2 v3 v4 → W p l e (kR 2 45 0 0) s m ([.ref a_this, .int p1] : List Value).toArray below meth c H locs 0 0 Q (F0 m 17 ls [])), ∀ {H : Heap} {locs : List Loc} {ls : Array Slot} (v3 : Int32) (v4 : Int32) (V : VW g A s.heap H locs (gX12 g a_this a_this_z a_this_saved a_this_text a_this_line a_this_aside a_this_read a_this_fewest thrown z saves saved length text many line aside isWord entries rdA fewest h)) (hl : lv_has ls 6 [(0, .ref a_this), (1, .int p1), (3, .int v3), (4, .int v4)]) (hw : wX12_isTwo_94 z p1 K4 K17 P v3 v4), W p l e (kR 2 45 0 0) s m ([.ref a_this, .int p1] : List Value).toArray below meth c H locs 0 0 Q (F0 m 94 ls []) := by
    intro K4 k4 K17 k17 H locs ls v3 v4 V hl hw
    refine lv_iconst (v := 0) hx hb dX12_isTwo_94 (by decide) ?_
    exact B95 K4 k4 K17 k17 v3 v4 0 V hl hw
  have B90 : ∀ (K4 : Int32 → Int32 → Prop) (k4 : ∀ {H : Heap} {locs : List Loc} {ls : Array Slot} (v2 : Int32) (v3 : Int32), VW g A s.heap H locs (gX12 g a_this a_this_z a_this_saved a_this_text a_this_line a_this_aside a_this_read a_this_fewest thrown z saves saved length text many line aside isWord entries rdA fewest h) → lv_has ls 6 [(0, .ref a_this), (1, .int p1), (2, .int v2), (3, .int v3)] → K4 v2 v3 → W p l e (kR 2 45 0 0) s m ([.ref a_this, .int p1] : List Value).toArray below meth c H locs 0 0 Q (F0 m 4 ls [])) (K17 : Int32 → Int32 → Int32 → Prop) (k17 : ∀ {H : Heap} {locs : List Loc} {ls : Array Slot} (v2 : Int32) (v3 : Int32) (v4 : Int32), VW g A s.heap H locs (gX12 g a_this a_this_z a_this_saved a_this_text a_this_line a_this_aside a_this_read a_this_fewest thrown z saves saved length text many line aside isWord entries rdA fewest h) → lv_has ls 6 [(0, .ref a_this), (1, .int p1), (2, .int v2), (3, .int v3), (4, .int v4)] → K17 v2 v3 v4 → W p l e (kR 2 45 0 0) s m ([.ref a_this, .int p1] : List Value).toArray below meth c H locs 0 0 Q (F0 m 17 ls [])), ∀ {H : Heap} {locs : List Loc} {ls : Array Slot} (v3 : Int32) (v4 : Int32) (V : VW g A s.heap H locs (gX12 g a_this a_this_z a_this_saved a_this_text a_this_line a_this_aside a_this_read a_this_fewest thrown z saves saved length text many line aside isWord entries rdA fewest h)) (hl : lv_has ls 6 [(0, .ref a_this), (1, .int p1), (3, .int v3), (4, .int v4)]) (hw : wX12_isTwo_90 z p1 K4 K17 P v3 v4), W p l e (kR 2 45 0 0) s m ([.ref a_this, .int p1] : List Value).toArray below meth c H locs 0 0 Q (F0 m 90 ls []) := by
    intro K4 k4 K17 k17 H locs ls v3 v4 V hl hw
    refine lv_iconst (v := 1) hx hb dX12_isTwo_90 (by decide) ?_
    refine lv_goto (tgt := 95) hx hb dX12_isTwo_91 (by decide) ?_
    exact B95 K4 k4 K17 k17 v3 v4 1 V hl hw
  have B17 : ∀ (K4 : Int32 → Int32 → Prop) (k4 : ∀ {H : Heap} {locs : List Loc} {ls : Array Slot} (v2 : Int32) (v3 : Int32), VW g A s.heap H locs (gX12 g a_this a_this_z a_this_saved a_this_text a_this_line a_this_aside a_this_read a_this_fewest thrown z saves saved length text many line aside isWord entries rdA fewest h) → lv_has ls 6 [(0, .ref a_this), (1, .int p1), (2, .int v2), (3, .int v3)] → K4 v2 v3 → W p l e (kR 2 45 0 0) s m ([.ref a_this, .int p1] : List Value).toArray below meth c H locs 0 0 Q (F0 m 4 ls [])), ∀ (n : Nat), ∀ {H : Heap} {locs : List Loc} {ls : Array Slot} (v2 : Int32) (v3 : Int32) (v4 : Int32) (V : VW g A s.heap H locs (gX12 g a_this a_this_z a_this_saved a_this_text a_this_line a_this_aside a_this_read a_this_fewest thrown z saves saved length text many line aside isWord entries rdA fewest h)) (hl : lv_has ls 6 [(0, .ref a_this), (1, .int p1), (2, .int v2), (3, .int v3), (4, .int v4)]) (hw : wX12_isTwo_17 z p1 K4 P n v2 v3 v4), W p l e (kR 2 45 0 0) s m ([.ref a_this, .int p1] : List Value).toArray below meth c H locs 0 0 Q (F0 m 17 ls []) := by
    intro K4 k4
    intro n
    induction n with
    | zero => intro _ _ _ _ _ _ V hl hw; exact hw.elim
    | succ n ih =>
      intro H locs ls v2 v3 v4 V hl hw
      refine lv_iload hx hb dX12_isTwo_17 (lv_at hl 4 rfl) ?_
      refine lv_aload_n hx hb dX12_isTwo_19 rfl (lv_at hl 0 rfl) ?_
      refine kget F V 8 1 0 rfl rfl iX12_isTwo_X12 fX12_isTwo_7 (by decide) rfl rfl dX12_isTwo_20 ?_
      refine lv_iconst (v := 0) hx hb dX12_isTwo_23 (by decide) ?_
      refine kiald F V 1 rfl hw.1 dX12_isTwo_24 ?_
      have hw := hw.2
      refine lv_icmp_ge (tgt := 102) hx hb dX12_isTwo_25 (by decide) (fun c_25 => ?_) (fun c_25 => ?_)
      · have hw := hw.1 c_25
        refine lv_iinc (v := v3 + 1) (lv' := [(3, .int (v3 + 1)), (0, .ref a_this), (1, .int p1), (2, .int v2), (4, .int v4)]) hx hb dX12_isTwo_102 hl (k := 3) rfl rfl (by decide) rfl (fun ls hl => ?_)
        refine lv_goto (tgt := 4) hx hb dX12_isTwo_105 (by decide) ?_
        exact k4 v2 (v3 + 1) V (lv_sub hl [1, 2, 3, 0] rfl) hw
      · have hw := hw.2 c_25
        refine lv_aload_n hx hb dX12_isTwo_28 rfl (lv_at hl 0 rfl) ?_
        refine kget F V 8 1 0 rfl rfl iX12_isTwo_X12 fX12_isTwo_7 (by decide) rfl rfl dX12_isTwo_29 ?_
        refine lv_iload_n hx hb dX12_isTwo_32 rfl (lv_at hl 3 rfl) ?_
        refine kSi0n (rest := [.ref a_this_z]) F hl V (kX12_entryAt l g v3 _ hw) gX12_isTwo_X12_entryAt rfl 1 rfl hdX12_entryAt ⟨Nat.le_of_ble_eq_true rfl, Nat.le_of_ble_eq_true rfl⟩ ⟨Nat.le_of_ble_eq_true rfl, Nat.le_of_ble_eq_true rfl⟩ (Nat.le_of_ble_eq_true rfl) rfl dX12_isTwo_33 (fun r_33 H locs hw V => ?_)
        refine kiald F V 1 rfl hw.1 dX12_isTwo_36 ?_
        have hw := hw.2
        refine lv_topi (fun v5_37 ev5_37 => ?_)
        have hw := hw v5_37 ev5_37
        refine lv_istore (lv' := [(5, .int v5_37), (0, .ref a_this), (1, .int p1), (2, .int v2), (3, .int v3), (4, .int v4)]) hx hb dX12_isTwo_37 hl (by decide) rfl (fun ls hl => ?_)
        refine lv_iload_n hx hb dX12_isTwo_39 rfl (lv_at hl 3 rfl) ?_
        refine lv_if_ne (tgt := 90) hx hb dX12_isTwo_40 (by decide) (fun c_40 => ?_) (fun c_40 => ?_)
        · have hw := hw.1 c_40
          exact B90 K4 k4 (wX12_isTwo_17 z p1 K4 P n) ih v3 v4 V (lv_sub hl [1, 2, 4, 5] rfl) hw
        · have hw := hw.2 c_40
          refine lv_iload hx hb dX12_isTwo_43 (lv_at hl 0 rfl) ?_
          refine lv_aload_n hx hb dX12_isTwo_45 rfl (lv_at hl 1 rfl) ?_
          refine kget F V 8 1 0 rfl rfl iX12_isTwo_X12 fX12_isTwo_7 (by decide) rfl rfl dX12_isTwo_46 ?_
          refine lv_iload hx hb dX12_isTwo_49 (lv_at hl 5 rfl) ?_
          refine kSi0n (rest := [.ref a_this_z, .int v5_37]) F hl V (kX12_entryAt l g v4 _ hw) gX12_isTwo_X12_entryAt rfl 1 rfl hdX12_entryAt ⟨Nat.le_of_ble_eq_true rfl, Nat.le_of_ble_eq_true rfl⟩ ⟨Nat.le_of_ble_eq_true rfl, Nat.le_of_ble_eq_true rfl⟩ (Nat.le_of_ble_eq_true rfl) rfl dX12_isTwo_51 (fun r_51 H locs hw V => ?_)
          refine kiald F V 1 rfl hw.1 dX12_isTwo_54 ?_
          have hw := hw.2
          refine lv_iadd hx hb dX12_isTwo_55 ?_
          refine lv_aload_n hx hb dX12_isTwo_56 rfl (lv_at hl 1 rfl) ?_
          refine kget F V 8 1 0 rfl rfl iX12_isTwo_X12 fX12_isTwo_7 (by decide) rfl rfl dX12_isTwo_57 ?_
          refine lv_iload_n hx hb dX12_isTwo_60 rfl (lv_at hl 2 rfl) ?_
          refine kSi0n (rest := [.ref a_this_z, .int (v5_37 + (z r_51.toNatClampNeg))]) F hl V (kX12_entryAt l g p1 _ hw) gX12_isTwo_X12_entryAt rfl 1 rfl hdX12_entryAt ⟨Nat.le_of_ble_eq_true rfl, Nat.le_of_ble_eq_true rfl⟩ ⟨Nat.le_of_ble_eq_true rfl, Nat.le_of_ble_eq_true rfl⟩ (Nat.le_of_ble_eq_true rfl) rfl dX12_isTwo_61 (fun r_61 H locs hw V => ?_)
          refine kiald F V 1 rfl hw.1 dX12_isTwo_64 ?_
          have hw := hw.2
          refine lv_icmp_ne (tgt := 94) hx hb dX12_isTwo_65 (by decide) (fun c_65 => ?_) (fun c_65 => ?_)
          · have hw := hw.1 c_65
            exact B94 K4 k4 (wX12_isTwo_17 z p1 K4 P n) ih v3 v4 V (lv_sub hl [1, 2, 4, 5] rfl) hw
          · have hw := hw.2 c_65
            refine lv_aload_n hx hb dX12_isTwo_68 rfl (lv_at hl 1 rfl) ?_
            refine lv_iload_n hx hb dX12_isTwo_69 rfl (lv_at hl 2 rfl) ?_
            refine lv_iconst (v := 0) hx hb dX12_isTwo_70 (by decide) ?_
            refine lv_iload_n hx hb dX12_isTwo_71 rfl (lv_at hl 4 rfl) ?_
            refine kVi0 (rest := []) F hl V [0, 1, 2, 3, 4, 5, 6, 7] [] [0, 1, 2, 3, 4, 5, 6, 7] (gX12 g a_this a_this_z a_this_saved a_this_text a_this_line a_this_aside a_this_read a_this_fewest thrown z saves saved length text many line aside isWord entries rdA fewest h) a_this 8 0 rfl rfl (kX12_isIn l g a_this a_this_z a_this_saved a_this_text a_this_line a_this_aside a_this_read a_this_fewest thrown z saves saved length text many line aside isWord entries rdA fewest h p1 0 v3 _ hw) gX12_isTwo_X12_isIn rfl 3 rfl hdX12_isIn rfl rfl (fun _ => rfl) rfl rfl rfl (by decide) ⟨Nat.le_of_ble_eq_true rfl, Nat.le_of_ble_eq_true rfl⟩ ⟨Nat.le_of_ble_eq_true rfl, Nat.le_of_ble_eq_true rfl⟩ (Nat.le_of_ble_eq_true rfl) rfl dX12_isTwo_72 (fun r_72 H locs hw V => ?_)
            refine lv_if_eq (tgt := 94) hx hb dX12_isTwo_75 (by decide) (fun c_75 => ?_) (fun c_75 => ?_)
            · have hw := hw.1 c_75
              exact B94 K4 k4 (wX12_isTwo_17 z p1 K4 P n) ih v3 v4 V (lv_sub hl [1, 2, 4, 5] rfl) hw
            · have hw := hw.2 c_75
              refine lv_aload_n hx hb dX12_isTwo_78 rfl (lv_at hl 1 rfl) ?_
              refine lv_iload_n hx hb dX12_isTwo_79 rfl (lv_at hl 2 rfl) ?_
              refine lv_iload hx hb dX12_isTwo_80 (lv_at hl 0 rfl) ?_
              refine lv_iload hx hb dX12_isTwo_82 (lv_at hl 5 rfl) ?_
              refine kVi0 (rest := []) F hl V [0, 1, 2, 3, 4, 5, 6, 7] [] [0, 1, 2, 3, 4, 5, 6, 7] (gX12 g a_this a_this_z a_this_saved a_this_text a_this_line a_this_aside a_this_read a_this_fewest thrown z saves saved length text many line aside isWord entries rdA fewest h) a_this 8 0 rfl rfl (kX12_isIn l g a_this a_this_z a_this_saved a_this_text a_this_line a_this_aside a_this_read a_this_fewest thrown z saves saved length text many line aside isWord entries rdA fewest h p1 v5_37 v4 _ hw) gX12_isTwo_X12_isIn rfl 3 rfl hdX12_isIn rfl rfl (fun _ => rfl) rfl rfl rfl (by decide) ⟨Nat.le_of_ble_eq_true rfl, Nat.le_of_ble_eq_true rfl⟩ ⟨Nat.le_of_ble_eq_true rfl, Nat.le_of_ble_eq_true rfl⟩ (Nat.le_of_ble_eq_true rfl) rfl dX12_isTwo_84 (fun r_84 H locs hw V => ?_)
              refine lv_if_eq (tgt := 94) hx hb dX12_isTwo_87 (by decide) (fun c_87 => ?_) (fun c_87 => ?_)
              · have hw := hw.1 c_87
                exact B94 K4 k4 (wX12_isTwo_17 z p1 K4 P n) ih v3 v4 V (lv_sub hl [1, 2, 4, 5] rfl) hw
              · have hw := hw.2 c_87
                exact B90 K4 k4 (wX12_isTwo_17 z p1 K4 P n) ih v3 v4 V (lv_sub hl [1, 2, 4, 5] rfl) hw
  have B4 :  ∀ (n : Nat), ∀ {H : Heap} {locs : List Loc} {ls : Array Slot} (v2 : Int32) (v3 : Int32) (V : VW g A s.heap H locs (gX12 g a_this a_this_z a_this_saved a_this_text a_this_line a_this_aside a_this_read a_this_fewest thrown z saves saved length text many line aside isWord entries rdA fewest h)) (hl : lv_has ls 6 [(0, .ref a_this), (1, .int p1), (2, .int v2), (3, .int v3)]) (hw : wX12_isTwo_4 z p1 P n v2 v3), W p l e (kR 2 45 0 0) s m ([.ref a_this, .int p1] : List Value).toArray below meth c H locs 0 0 Q (F0 m 4 ls []) := by
    intro n
    induction n with
    | zero => intro _ _ _ _ _ V hl hw; exact hw.elim
    | succ n ih =>
      intro H locs ls v2 v3 V hl hw
      refine lv_iload_n hx hb dX12_isTwo_4 rfl (lv_at hl 3 rfl) ?_
      refine lv_aload_n hx hb dX12_isTwo_5 rfl (lv_at hl 0 rfl) ?_
      refine kget F V 8 1 0 rfl rfl iX12_isTwo_X12 fX12_isTwo_7 (by decide) rfl rfl dX12_isTwo_6 ?_
      refine lv_iconst (v := 0) hx hb dX12_isTwo_9 (by decide) ?_
      refine kiald F V 1 rfl hw.1 dX12_isTwo_10 ?_
      have hw := hw.2
      refine lv_icmp_ge (tgt := 108) hx hb dX12_isTwo_11 (by decide) (fun c_11 => ?_) (fun c_11 => ?_)
      · have hw := hw.1 c_11
        refine lv_iload_n hx hb dX12_isTwo_108 rfl (lv_at hl 2 rfl) ?_
        exact ret _ _ _ _ _ (k01n hw.1) dX12_isTwo_109 V hw.2
      · have hw := hw.2 c_11
        refine lv_iconst (v := 0) hx hb dX12_isTwo_14 (by decide) ?_
        refine lv_istore (lv' := [(4, .int 0), (0, .ref a_this), (1, .int p1), (2, .int v2), (3, .int v3)]) hx hb dX12_isTwo_15 hl (by decide) rfl (fun ls hl => ?_)
        obtain ⟨n_17, hw⟩ := hw
        exact B17 (wX12_isTwo_4 z p1 P n) ih n_17 v2 v3 0 V (lv_sub hl [1, 2, 3, 4, 0] rfl) hw
  refine lv_iconst (v := 0) hx hb dX12_isTwo_0 (by decide) ?_
  refine lv_istore_n (lv' := [(2, .int 0), (0, .ref a_this), (1, .int p1)]) hx hb dX12_isTwo_1 rfl hl (by decide) rfl (fun ls hl => ?_)
  refine lv_iconst (v := 0) hx hb dX12_isTwo_2 (by decide) ?_
  refine lv_istore_n (lv' := [(3, .int 0), (2, .int 0), (0, .ref a_this), (1, .int p1)]) hx hb dX12_isTwo_3 rfl hl (by decide) rfl (fun ls hl => ?_)
  obtain ⟨n_4, hw⟩ := hw
  exact B4  n_4 0 0 V (lv_sub hl [2, 3, 1, 0] rfl) hw
theorem hdX12_clash : yX12_clash.cls = RX12 ∧ yX12_clash.cls ≠ "java/lang/invoke/MethodHandle" ∧ yX12_clash.cls ≠ "java/lang/invoke/VarHandle" ∧ (parseMethodDescriptor yX12_clash.desc).map (fun d => d.parameters.length) = some 1 := by decide +kernel
theorem fX12_clash_7 : Cond.fieldLink RX12 7 RX12 "z" "[I" ∈ wsX12_clash := by decide +kernel
theorem iX12_clash_X12 : ∀ w ∈ u_ws RX12 TX12 14, w ∈ wsX12_clash := by decide +kernel
def wX12_clash_101 (z : Nat → Int32) (p1 : Int32) (K10 : Int32 → Int32 → Int32 → Int32 → Prop) (P : Int32 → Prop) (v2 : Int32) (v3 : Int32) (v5 : Int32) (s0 : Int32) : Prop := K10 v2 v3 s0 (v5 + 1)
def wX12_clash_100 (z : Nat → Int32) (p1 : Int32) (K10 : Int32 → Int32 → Int32 → Int32 → Prop) (P : Int32 → Prop) (v2 : Int32) (v3 : Int32) (v5 : Int32) : Prop := wX12_clash_101 z p1 K10 P v2 v3 v5 0
def wX12_clash_96 (z : Nat → Int32) (p1 : Int32) (K10 : Int32 → Int32 → Int32 → Int32 → Prop) (P : Int32 → Prop) (v2 : Int32) (v3 : Int32) (v5 : Int32) : Prop := wX12_clash_101 z p1 K10 P v2 v3 v5 1
def wX12_clash_74 (z : Nat → Int32) (p1 : Int32) (K10 : Int32 → Int32 → Int32 → Int32 → Prop) (P : Int32 → Prop) (v2 : Int32) (v4 : Int32) (v5 : Int32) (s0 : Int32) : Prop := (¬ v4 = 0 → wX12_clash_96 z p1 K10 P v2 s0 v5) ∧ (v4 = 0 → (v5 = p1 → wX12_clash_100 z p1 K10 P v2 s0 v5) ∧ (¬ (v5 = p1) → wX12_isSameWord z v5 p1 (fun r_90 => (r_90 = 0 → wX12_clash_100 z p1 K10 P v2 s0 v5) ∧ (¬ (r_90 = 0) → wX12_clash_96 z p1 K10 P v2 s0 v5))))
def wX12_clash_73 (z : Nat → Int32) (p1 : Int32) (K10 : Int32 → Int32 → Int32 → Int32 → Prop) (P : Int32 → Prop) (v2 : Int32) (v4 : Int32) (v5 : Int32) : Prop := wX12_clash_74 z p1 K10 P v2 v4 v5 0
def wX12_clash_69 (z : Nat → Int32) (p1 : Int32) (K10 : Int32 → Int32 → Int32 → Int32 → Prop) (P : Int32 → Prop) (v2 : Int32) (v4 : Int32) (v5 : Int32) : Prop := wX12_clash_74 z p1 K10 P v2 v4 v5 1
def wX12_clash_47 (z : Nat → Int32) (p1 : Int32) (K10 : Int32 → Int32 → Int32 → Int32 → Prop) (P : Int32 → Prop) (v3 : Int32) (v4 : Int32) (v5 : Int32) (s0 : Int32) : Prop := (¬ v3 = 0 → wX12_clash_69 z p1 K10 P s0 v4 v5) ∧ (v3 = 0 → (v5 = p1 → wX12_clash_73 z p1 K10 P s0 v4 v5) ∧ (¬ (v5 = p1) → wX12_isIn z p1 0 v5 (fun r_63 => (r_63 = 0 → wX12_clash_73 z p1 K10 P s0 v4 v5) ∧ (¬ (r_63 = 0) → wX12_clash_69 z p1 K10 P s0 v4 v5))))
def wX12_clash_46 (z : Nat → Int32) (p1 : Int32) (K10 : Int32 → Int32 → Int32 → Int32 → Prop) (P : Int32 → Prop) (v3 : Int32) (v4 : Int32) (v5 : Int32) : Prop := wX12_clash_47 z p1 K10 P v3 v4 v5 0
def wX12_clash_42 (z : Nat → Int32) (p1 : Int32) (K10 : Int32 → Int32 → Int32 → Int32 → Prop) (P : Int32 → Prop) (v3 : Int32) (v4 : Int32) (v5 : Int32) : Prop := wX12_clash_47 z p1 K10 P v3 v4 v5 1
def wX12_clash_10 (z : Nat → Int32) (p1 : Int32) (P : Int32 → Prop) : Nat → Int32 → Int32 → Int32 → Int32 → Prop
  | 0, _, _, _, _ => False
  | n + 1, v2, v3, v4, v5 => vp_in 0 1317 ∧ ((z (0 : Int32).toNatClampNeg) ≤ v5 → (v2 = 0 → wX12_isTwo z p1 (fun r_119 => (r_119 = 0 → (v3 = 0 → (v4 = 0 → P 0) ∧ (¬ (v4 = 0) → P 4)) ∧ (¬ (v3 = 0) → P 3)) ∧ (¬ (r_119 = 0) → P 2))) ∧ (¬ (v2 = 0) → P 1)) ∧ (¬ ((z (0 : Int32).toNatClampNeg) ≤ v5) → (¬ v2 = 0 → wX12_clash_42 z p1 (wX12_clash_10 z p1 P n) P v3 v4 v5) ∧ (v2 = 0 → (v5 = p1 → wX12_clash_46 z p1 (wX12_clash_10 z p1 P n) P v3 v4 v5) ∧ (¬ (v5 = p1) → wX12_isIn z v5 0 p1 (fun r_36 => (r_36 = 0 → wX12_clash_46 z p1 (wX12_clash_10 z p1 P n) P v3 v4 v5) ∧ (¬ (r_36 = 0) → wX12_clash_42 z p1 (wX12_clash_10 z p1 P n) P v3 v4 v5)))))
def wX12_clash (z : Nat → Int32) (p1 : Int32) (P : Int32 → Prop) : Prop := ∃ n_10, wX12_clash_10 z p1 P n_10 0 0 0 0
set_option maxHeartbeats 4000000 in
set_option maxRecDepth 100000 in
theorem kX12_clash (l : Launch) (g : kT) (a_this : Nat) (a_this_z : Nat) (a_this_saved : Nat) (a_this_text : Nat) (a_this_line : Nat) (a_this_aside : Nat) (a_this_read : Nat) (a_this_fewest : Nat) (thrown : Int32) (z : Nat → Int32) (saves : Int32) (saved : Nat → Int32) (length : Int32) (text : Nat → Int32) (many : Int32) (line : Nat → Int32) (aside : Nat → Int32) (isWord : Int32) (entries : Int32) (rdA : Nat → Int32) (fewest : Nat → Int32) (h : Int64) (p1 : Int32) (P : Int32 → Prop) (hw : wX12_clash z p1 P) : Ki0 l g yX12_clash wsX12_clash 3 70 0 0 [.ref a_this, .int p1] (gX12 g a_this a_this_z a_this_saved a_this_text a_this_line a_this_aside a_this_read a_this_fewest thrown z saves saved length text many line aside isWord entries rdA fewest h) P (gX12 g a_this a_this_z a_this_saved a_this_text a_this_line a_this_aside a_this_read a_this_fewest thrown z saves saved length text many line aside isWord entries rdA fewest h) := by
  refine Ki0.mk (cc := cX12_clash) (nL := 6) (ty := .int) (by decide +kernel) rfl (Nat.le_of_ble_eq_true rfl) ?_
  intro p e s m below meth c A Q ls F hl V ret
  have hx := F.x
  have hb := F.b
  have hl : lv_has ls 6 [(0, .ref a_this), (1, .int p1)] := hl
  have B101 : ∀ (K10 : Int32 → Int32 → Int32 → Int32 → Prop) (k10 : ∀ {H : Heap} {locs : List Loc} {ls : Array Slot} (v2 : Int32) (v3 : Int32) (v4 : Int32) (v5 : Int32), VW g A s.heap H locs (gX12 g a_this a_this_z a_this_saved a_this_text a_this_line a_this_aside a_this_read a_this_fewest thrown z saves saved length text many line aside isWord entries rdA fewest h) → lv_has ls 6 [(0, .ref a_this), (1, .int p1), (2, .int v2), (3, .int v3), (4, .int v4), (5, .int v5)] → K10 v2 v3 v4 v5 → W p l e (kR 3 70 0 0) s m ([.ref a_this, .int p1] : List Value).toArray below meth c H locs 0 0 Q (F0 m 10 ls [])), ∀ {H : Heap} {locs : List Loc} {ls : Array Slot} (v2 : Int32) (v3 : Int32) (v5 : Int32) (s0 : Int32) (V : VW g A s.heap H locs (gX12 g a_this a_this_z a_this_saved a_this_text a_this_line a_this_aside a_this_read a_this_fewest thrown z saves saved length text many line aside isWord entries rdA fewest h)) (hl : lv_has ls 6 [(0, .ref a_this), (1, .int p1), (2, .int v2), (3, .int v3), (5, .int v5)]) (hw : wX12_clash_101 z p1 K10 P v2 v3 v5 s0), W p l e (kR 3 70 0 0) s m ([.ref a_this, .int p1] : List Value).toArray below meth c H locs 0 0 Q (F0 m 101 ls [.int s0]) := by
    intro K10 k10 H locs ls v2 v3 v5 s0 V hl hw
    refine lv_istore (lv' := [(4, .int s0), (0, .ref a_this), (1, .int p1), (2, .int v2), (3, .int v3), (5, .int v5)]) hx hb dX12_clash_101 hl (by decide) rfl (fun ls hl => ?_)
    refine lv_iinc (v := v5 + 1) (lv' := [(5, .int (v5 + 1)), (4, .int s0), (0, .ref a_this), (1, .int p1), (2, .int v2), (3, .int v3)]) hx hb dX12_clash_103 hl (k := 5) rfl rfl (by decide) rfl (fun ls hl => ?_)
    refine lv_goto (tgt := 10) hx hb dX12_clash_106 (by decide) ?_
    exact k10 v2 v3 s0 (v5 + 1) V (lv_sub hl [2, 3, 4, 5, 1, 0] rfl) hw
  have B100 : ∀ (K10 : Int32 → Int32 → Int32 → Int32 → Prop) (k10 : ∀ {H : Heap} {locs : List Loc} {ls : Array Slot} (v2 : Int32) (v3 : Int32) (v4 : Int32) (v5 : Int32), VW g A s.heap H locs (gX12 g a_this a_this_z a_this_saved a_this_text a_this_line a_this_aside a_this_read a_this_fewest thrown z saves saved length text many line aside isWord entries rdA fewest h) → lv_has ls 6 [(0, .ref a_this), (1, .int p1), (2, .int v2), (3, .int v3), (4, .int v4), (5, .int v5)] → K10 v2 v3 v4 v5 → W p l e (kR 3 70 0 0) s m ([.ref a_this, .int p1] : List Value).toArray below meth c H locs 0 0 Q (F0 m 10 ls [])), ∀ {H : Heap} {locs : List Loc} {ls : Array Slot} (v2 : Int32) (v3 : Int32) (v5 : Int32) (V : VW g A s.heap H locs (gX12 g a_this a_this_z a_this_saved a_this_text a_this_line a_this_aside a_this_read a_this_fewest thrown z saves saved length text many line aside isWord entries rdA fewest h)) (hl : lv_has ls 6 [(0, .ref a_this), (1, .int p1), (2, .int v2), (3, .int v3), (5, .int v5)]) (hw : wX12_clash_100 z p1 K10 P v2 v3 v5), W p l e (kR 3 70 0 0) s m ([.ref a_this, .int p1] : List Value).toArray below meth c H locs 0 0 Q (F0 m 100 ls []) := by
    intro K10 k10 H locs ls v2 v3 v5 V hl hw
    refine lv_iconst (v := 0) hx hb dX12_clash_100 (by decide) ?_
    exact B101 K10 k10 v2 v3 v5 0 V hl hw
  have B96 : ∀ (K10 : Int32 → Int32 → Int32 → Int32 → Prop) (k10 : ∀ {H : Heap} {locs : List Loc} {ls : Array Slot} (v2 : Int32) (v3 : Int32) (v4 : Int32) (v5 : Int32), VW g A s.heap H locs (gX12 g a_this a_this_z a_this_saved a_this_text a_this_line a_this_aside a_this_read a_this_fewest thrown z saves saved length text many line aside isWord entries rdA fewest h) → lv_has ls 6 [(0, .ref a_this), (1, .int p1), (2, .int v2), (3, .int v3), (4, .int v4), (5, .int v5)] → K10 v2 v3 v4 v5 → W p l e (kR 3 70 0 0) s m ([.ref a_this, .int p1] : List Value).toArray below meth c H locs 0 0 Q (F0 m 10 ls [])), ∀ {H : Heap} {locs : List Loc} {ls : Array Slot} (v2 : Int32) (v3 : Int32) (v5 : Int32) (V : VW g A s.heap H locs (gX12 g a_this a_this_z a_this_saved a_this_text a_this_line a_this_aside a_this_read a_this_fewest thrown z saves saved length text many line aside isWord entries rdA fewest h)) (hl : lv_has ls 6 [(0, .ref a_this), (1, .int p1), (2, .int v2), (3, .int v3), (5, .int v5)]) (hw : wX12_clash_96 z p1 K10 P v2 v3 v5), W p l e (kR 3 70 0 0) s m ([.ref a_this, .int p1] : List Value).toArray below meth c H locs 0 0 Q (F0 m 96 ls []) := by
    intro K10 k10 H locs ls v2 v3 v5 V hl hw
    refine lv_iconst (v := 1) hx hb dX12_clash_96 (by decide) ?_
    refine lv_goto (tgt := 101) hx hb dX12_clash_97 (by decide) ?_
    exact B101 K10 k10 v2 v3 v5 1 V hl hw
  have B74 : ∀ (K10 : Int32 → Int32 → Int32 → Int32 → Prop) (k10 : ∀ {H : Heap} {locs : List Loc} {ls : Array Slot} (v2 : Int32) (v3 : Int32) (v4 : Int32) (v5 : Int32), VW g A s.heap H locs (gX12 g a_this a_this_z a_this_saved a_this_text a_this_line a_this_aside a_this_read a_this_fewest thrown z saves saved length text many line aside isWord entries rdA fewest h) → lv_has ls 6 [(0, .ref a_this), (1, .int p1), (2, .int v2), (3, .int v3), (4, .int v4), (5, .int v5)] → K10 v2 v3 v4 v5 → W p l e (kR 3 70 0 0) s m ([.ref a_this, .int p1] : List Value).toArray below meth c H locs 0 0 Q (F0 m 10 ls [])), ∀ {H : Heap} {locs : List Loc} {ls : Array Slot} (v2 : Int32) (v4 : Int32) (v5 : Int32) (s0 : Int32) (V : VW g A s.heap H locs (gX12 g a_this a_this_z a_this_saved a_this_text a_this_line a_this_aside a_this_read a_this_fewest thrown z saves saved length text many line aside isWord entries rdA fewest h)) (hl : lv_has ls 6 [(0, .ref a_this), (1, .int p1), (2, .int v2), (4, .int v4), (5, .int v5)]) (hw : wX12_clash_74 z p1 K10 P v2 v4 v5 s0), W p l e (kR 3 70 0 0) s m ([.ref a_this, .int p1] : List Value).toArray below meth c H locs 0 0 Q (F0 m 74 ls [.int s0]) := by
    intro K10 k10 H locs ls v2 v4 v5 s0 V hl hw
    refine lv_istore_n (lv' := [(3, .int s0), (0, .ref a_this), (1, .int p1), (2, .int v2), (4, .int v4), (5, .int v5)]) hx hb dX12_clash_74 rfl hl (by decide) rfl (fun ls hl => ?_)
    refine lv_iload hx hb dX12_clash_75 (lv_at hl 4 rfl) ?_
    refine lv_if_ne (tgt := 96) hx hb dX12_clash_77 (by decide) (fun c_77 => ?_) (fun c_77 => ?_)
    · have hw := hw.1 c_77
      exact B96 K10 k10 v2 s0 v5 V (lv_sub hl [1, 2, 3, 0, 5] rfl) hw
    · have hw := hw.2 c_77
      refine lv_iload hx hb dX12_clash_80 (lv_at hl 5 rfl) ?_
      refine lv_iload_n hx hb dX12_clash_82 rfl (lv_at hl 2 rfl) ?_
      refine lv_icmp_eq (tgt := 100) hx hb dX12_clash_83 (by decide) (fun c_83 => ?_) (fun c_83 => ?_)
      · have hw := hw.1 c_83
        exact B100 K10 k10 v2 s0 v5 V (lv_sub hl [1, 2, 3, 0, 5] rfl) hw
      · have hw := hw.2 c_83
        refine lv_aload_n hx hb dX12_clash_86 rfl (lv_at hl 1 rfl) ?_
        refine lv_iload hx hb dX12_clash_87 (lv_at hl 5 rfl) ?_
        refine lv_iload_n hx hb dX12_clash_89 rfl (lv_at hl 2 rfl) ?_
        refine kVi0 (rest := []) F hl V [0, 1, 2, 3, 4, 5, 6, 7] [] [0, 1, 2, 3, 4, 5, 6, 7] (gX12 g a_this a_this_z a_this_saved a_this_text a_this_line a_this_aside a_this_read a_this_fewest thrown z saves saved length text many line aside isWord entries rdA fewest h) a_this 8 0 rfl rfl (kX12_isSameWord l g a_this a_this_z a_this_saved a_this_text a_this_line a_this_aside a_this_read a_this_fewest thrown z saves saved length text many line aside isWord entries rdA fewest h v5 p1 _ hw) gX12_clash_X12_isSameWord rfl 2 rfl hdX12_isSameWord rfl rfl (fun _ => rfl) rfl rfl rfl (by decide) ⟨Nat.le_of_ble_eq_true rfl, Nat.le_of_ble_eq_true rfl⟩ ⟨Nat.le_of_ble_eq_true rfl, Nat.le_of_ble_eq_true rfl⟩ (Nat.le_of_ble_eq_true rfl) rfl dX12_clash_90 (fun r_90 H locs hw V => ?_)
        refine lv_if_eq (tgt := 100) hx hb dX12_clash_93 (by decide) (fun c_93 => ?_) (fun c_93 => ?_)
        · have hw := hw.1 c_93
          exact B100 K10 k10 v2 s0 v5 V (lv_sub hl [1, 2, 3, 0, 5] rfl) hw
        · have hw := hw.2 c_93
          exact B96 K10 k10 v2 s0 v5 V (lv_sub hl [1, 2, 3, 0, 5] rfl) hw
  have B73 : ∀ (K10 : Int32 → Int32 → Int32 → Int32 → Prop) (k10 : ∀ {H : Heap} {locs : List Loc} {ls : Array Slot} (v2 : Int32) (v3 : Int32) (v4 : Int32) (v5 : Int32), VW g A s.heap H locs (gX12 g a_this a_this_z a_this_saved a_this_text a_this_line a_this_aside a_this_read a_this_fewest thrown z saves saved length text many line aside isWord entries rdA fewest h) → lv_has ls 6 [(0, .ref a_this), (1, .int p1), (2, .int v2), (3, .int v3), (4, .int v4), (5, .int v5)] → K10 v2 v3 v4 v5 → W p l e (kR 3 70 0 0) s m ([.ref a_this, .int p1] : List Value).toArray below meth c H locs 0 0 Q (F0 m 10 ls [])), ∀ {H : Heap} {locs : List Loc} {ls : Array Slot} (v2 : Int32) (v4 : Int32) (v5 : Int32) (V : VW g A s.heap H locs (gX12 g a_this a_this_z a_this_saved a_this_text a_this_line a_this_aside a_this_read a_this_fewest thrown z saves saved length text many line aside isWord entries rdA fewest h)) (hl : lv_has ls 6 [(0, .ref a_this), (1, .int p1), (2, .int v2), (4, .int v4), (5, .int v5)]) (hw : wX12_clash_73 z p1 K10 P v2 v4 v5), W p l e (kR 3 70 0 0) s m ([.ref a_this, .int p1] : List Value).toArray below meth c H locs 0 0 Q (F0 m 73 ls []) := by
    intro K10 k10 H locs ls v2 v4 v5 V hl hw
    refine lv_iconst (v := 0) hx hb dX12_clash_73 (by decide) ?_
    exact B74 K10 k10 v2 v4 v5 0 V hl hw
  have B69 : ∀ (K10 : Int32 → Int32 → Int32 → Int32 → Prop) (k10 : ∀ {H : Heap} {locs : List Loc} {ls : Array Slot} (v2 : Int32) (v3 : Int32) (v4 : Int32) (v5 : Int32), VW g A s.heap H locs (gX12 g a_this a_this_z a_this_saved a_this_text a_this_line a_this_aside a_this_read a_this_fewest thrown z saves saved length text many line aside isWord entries rdA fewest h) → lv_has ls 6 [(0, .ref a_this), (1, .int p1), (2, .int v2), (3, .int v3), (4, .int v4), (5, .int v5)] → K10 v2 v3 v4 v5 → W p l e (kR 3 70 0 0) s m ([.ref a_this, .int p1] : List Value).toArray below meth c H locs 0 0 Q (F0 m 10 ls [])), ∀ {H : Heap} {locs : List Loc} {ls : Array Slot} (v2 : Int32) (v4 : Int32) (v5 : Int32) (V : VW g A s.heap H locs (gX12 g a_this a_this_z a_this_saved a_this_text a_this_line a_this_aside a_this_read a_this_fewest thrown z saves saved length text many line aside isWord entries rdA fewest h)) (hl : lv_has ls 6 [(0, .ref a_this), (1, .int p1), (2, .int v2), (4, .int v4), (5, .int v5)]) (hw : wX12_clash_69 z p1 K10 P v2 v4 v5), W p l e (kR 3 70 0 0) s m ([.ref a_this, .int p1] : List Value).toArray below meth c H locs 0 0 Q (F0 m 69 ls []) := by
    intro K10 k10 H locs ls v2 v4 v5 V hl hw
    refine lv_iconst (v := 1) hx hb dX12_clash_69 (by decide) ?_
    refine lv_goto (tgt := 74) hx hb dX12_clash_70 (by decide) ?_
    exact B74 K10 k10 v2 v4 v5 1 V hl hw
  have B47 : ∀ (K10 : Int32 → Int32 → Int32 → Int32 → Prop) (k10 : ∀ {H : Heap} {locs : List Loc} {ls : Array Slot} (v2 : Int32) (v3 : Int32) (v4 : Int32) (v5 : Int32), VW g A s.heap H locs (gX12 g a_this a_this_z a_this_saved a_this_text a_this_line a_this_aside a_this_read a_this_fewest thrown z saves saved length text many line aside isWord entries rdA fewest h) → lv_has ls 6 [(0, .ref a_this), (1, .int p1), (2, .int v2), (3, .int v3), (4, .int v4), (5, .int v5)] → K10 v2 v3 v4 v5 → W p l e (kR 3 70 0 0) s m ([.ref a_this, .int p1] : List Value).toArray below meth c H locs 0 0 Q (F0 m 10 ls [])), ∀ {H : Heap} {locs : List Loc} {ls : Array Slot} (v3 : Int32) (v4 : Int32) (v5 : Int32) (s0 : Int32) (V : VW g A s.heap H locs (gX12 g a_this a_this_z a_this_saved a_this_text a_this_line a_this_aside a_this_read a_this_fewest thrown z saves saved length text many line aside isWord entries rdA fewest h)) (hl : lv_has ls 6 [(0, .ref a_this), (1, .int p1), (3, .int v3), (4, .int v4), (5, .int v5)]) (hw : wX12_clash_47 z p1 K10 P v3 v4 v5 s0), W p l e (kR 3 70 0 0) s m ([.ref a_this, .int p1] : List Value).toArray below meth c H locs 0 0 Q (F0 m 47 ls [.int s0]) := by
    intro K10 k10 H locs ls v3 v4 v5 s0 V hl hw
    refine lv_istore_n (lv' := [(2, .int s0), (0, .ref a_this), (1, .int p1), (3, .int v3), (4, .int v4), (5, .int v5)]) hx hb dX12_clash_47 rfl hl (by decide) rfl (fun ls hl => ?_)
    refine lv_iload_n hx hb dX12_clash_48 rfl (lv_at hl 3 rfl) ?_
    refine lv_if_ne (tgt := 69) hx hb dX12_clash_49 (by decide) (fun c_49 => ?_) (fun c_49 => ?_)
    · have hw := hw.1 c_49
      exact B69 K10 k10 s0 v4 v5 V (lv_sub hl [1, 2, 0, 4, 5] rfl) hw
    · have hw := hw.2 c_49
      refine lv_iload hx hb dX12_clash_52 (lv_at hl 5 rfl) ?_
      refine lv_iload_n hx hb dX12_clash_54 rfl (lv_at hl 2 rfl) ?_
      refine lv_icmp_eq (tgt := 73) hx hb dX12_clash_55 (by decide) (fun c_55 => ?_) (fun c_55 => ?_)
      · have hw := hw.1 c_55
        exact B73 K10 k10 s0 v4 v5 V (lv_sub hl [1, 2, 0, 4, 5] rfl) hw
      · have hw := hw.2 c_55
        refine lv_aload_n hx hb dX12_clash_58 rfl (lv_at hl 1 rfl) ?_
        refine lv_iload_n hx hb dX12_clash_59 rfl (lv_at hl 2 rfl) ?_
        refine lv_iconst (v := 0) hx hb dX12_clash_60 (by decide) ?_
        refine lv_iload hx hb dX12_clash_61 (lv_at hl 5 rfl) ?_
        refine kVi0 (rest := []) F hl V [0, 1, 2, 3, 4, 5, 6, 7] [] [0, 1, 2, 3, 4, 5, 6, 7] (gX12 g a_this a_this_z a_this_saved a_this_text a_this_line a_this_aside a_this_read a_this_fewest thrown z saves saved length text many line aside isWord entries rdA fewest h) a_this 8 0 rfl rfl (kX12_isIn l g a_this a_this_z a_this_saved a_this_text a_this_line a_this_aside a_this_read a_this_fewest thrown z saves saved length text many line aside isWord entries rdA fewest h p1 0 v5 _ hw) gX12_clash_X12_isIn rfl 3 rfl hdX12_isIn rfl rfl (fun _ => rfl) rfl rfl rfl (by decide) ⟨Nat.le_of_ble_eq_true rfl, Nat.le_of_ble_eq_true rfl⟩ ⟨Nat.le_of_ble_eq_true rfl, Nat.le_of_ble_eq_true rfl⟩ (Nat.le_of_ble_eq_true rfl) rfl dX12_clash_63 (fun r_63 H locs hw V => ?_)
        refine lv_if_eq (tgt := 73) hx hb dX12_clash_66 (by decide) (fun c_66 => ?_) (fun c_66 => ?_)
        · have hw := hw.1 c_66
          exact B73 K10 k10 s0 v4 v5 V (lv_sub hl [1, 2, 0, 4, 5] rfl) hw
        · have hw := hw.2 c_66
          exact B69 K10 k10 s0 v4 v5 V (lv_sub hl [1, 2, 0, 4, 5] rfl) hw
  have B46 : ∀ (K10 : Int32 → Int32 → Int32 → Int32 → Prop) (k10 : ∀ {H : Heap} {locs : List Loc} {ls : Array Slot} (v2 : Int32) (v3 : Int32) (v4 : Int32) (v5 : Int32), VW g A s.heap H locs (gX12 g a_this a_this_z a_this_saved a_this_text a_this_line a_this_aside a_this_read a_this_fewest thrown z saves saved length text many line aside isWord entries rdA fewest h) → lv_has ls 6 [(0, .ref a_this), (1, .int p1), (2, .int v2), (3, .int v3), (4, .int v4), (5, .int v5)] → K10 v2 v3 v4 v5 → W p l e (kR 3 70 0 0) s m ([.ref a_this, .int p1] : List Value).toArray below meth c H locs 0 0 Q (F0 m 10 ls [])), ∀ {H : Heap} {locs : List Loc} {ls : Array Slot} (v3 : Int32) (v4 : Int32) (v5 : Int32) (V : VW g A s.heap H locs (gX12 g a_this a_this_z a_this_saved a_this_text a_this_line a_this_aside a_this_read a_this_fewest thrown z saves saved length text many line aside isWord entries rdA fewest h)) (hl : lv_has ls 6 [(0, .ref a_this), (1, .int p1), (3, .int v3), (4, .int v4), (5, .int v5)]) (hw : wX12_clash_46 z p1 K10 P v3 v4 v5), W p l e (kR 3 70 0 0) s m ([.ref a_this, .int p1] : List Value).toArray below meth c H locs 0 0 Q (F0 m 46 ls []) := by
    intro K10 k10 H locs ls v3 v4 v5 V hl hw
    refine lv_iconst (v := 0) hx hb dX12_clash_46 (by decide) ?_
    exact B47 K10 k10 v3 v4 v5 0 V hl hw
  have B42 : ∀ (K10 : Int32 → Int32 → Int32 → Int32 → Prop) (k10 : ∀ {H : Heap} {locs : List Loc} {ls : Array Slot} (v2 : Int32) (v3 : Int32) (v4 : Int32) (v5 : Int32), VW g A s.heap H locs (gX12 g a_this a_this_z a_this_saved a_this_text a_this_line a_this_aside a_this_read a_this_fewest thrown z saves saved length text many line aside isWord entries rdA fewest h) → lv_has ls 6 [(0, .ref a_this), (1, .int p1), (2, .int v2), (3, .int v3), (4, .int v4), (5, .int v5)] → K10 v2 v3 v4 v5 → W p l e (kR 3 70 0 0) s m ([.ref a_this, .int p1] : List Value).toArray below meth c H locs 0 0 Q (F0 m 10 ls [])), ∀ {H : Heap} {locs : List Loc} {ls : Array Slot} (v3 : Int32) (v4 : Int32) (v5 : Int32) (V : VW g A s.heap H locs (gX12 g a_this a_this_z a_this_saved a_this_text a_this_line a_this_aside a_this_read a_this_fewest thrown z saves saved length text many line aside isWord entries rdA fewest h)) (hl : lv_has ls 6 [(0, .ref a_this), (1, .int p1), (3, .int v3), (4, .int v4), (5, .int v5)]) (hw : wX12_clash_42 z p1 K10 P v3 v4 v5), W p l e (kR 3 70 0 0) s m ([.ref a_this, .int p1] : List Value).toArray below meth c H locs 0 0 Q (F0 m 42 ls []) := by
    intro K10 k10 H locs ls v3 v4 v5 V hl hw
    refine lv_iconst (v := 1) hx hb dX12_clash_42 (by decide) ?_
    refine lv_goto (tgt := 47) hx hb dX12_clash_43 (by decide) ?_
    exact B47 K10 k10 v3 v4 v5 1 V hl hw
  have B10 :  ∀ (n : Nat), ∀ {H : Heap} {locs : List Loc} {ls : Array Slot} (v2 : Int32) (v3 : Int32) (v4 : Int32) (v5 : Int32) (V : VW g A s.heap H locs (gX12 g a_this a_this_z a_this_saved a_this_text a_this_line a_this_aside a_this_read a_this_fewest thrown z saves saved length text many line aside isWord entries rdA fewest h)) (hl : lv_has ls 6 [(0, .ref a_this), (1, .int p1), (2, .int v2), (3, .int v3), (4, .int v4), (5, .int v5)]) (hw : wX12_clash_10 z p1 P n v2 v3 v4 v5), W p l e (kR 3 70 0 0) s m ([.ref a_this, .int p1] : List Value).toArray below meth c H locs 0 0 Q (F0 m 10 ls []) := by
    intro n
    induction n with
    | zero => intro _ _ _ _ _ _ _ V hl hw; exact hw.elim
    | succ n ih =>
      intro H locs ls v2 v3 v4 v5 V hl hw
      refine lv_iload hx hb dX12_clash_10 (lv_at hl 5 rfl) ?_
      refine lv_aload_n hx hb dX12_clash_12 rfl (lv_at hl 0 rfl) ?_
      refine kget F V 8 1 0 rfl rfl iX12_clash_X12 fX12_clash_7 (by decide) rfl rfl dX12_clash_13 ?_
      refine lv_iconst (v := 0) hx hb dX12_clash_16 (by decide) ?_
      refine kiald F V 1 rfl hw.1 dX12_clash_17 ?_
      have hw := hw.2
      refine lv_icmp_ge (tgt := 109) hx hb dX12_clash_18 (by decide) (fun c_18 => ?_) (fun c_18 => ?_)
      · have hw := hw.1 c_18
        refine lv_iload_n hx hb dX12_clash_109 rfl (lv_at hl 2 rfl) ?_
        refine lv_if_eq (tgt := 117) hx hb dX12_clash_110 (by decide) (fun c_110 => ?_) (fun c_110 => ?_)
        · have hw := hw.1 c_110
          refine lv_aload_n hx hb dX12_clash_117 rfl (lv_at hl 0 rfl) ?_
          refine lv_iload_n hx hb dX12_clash_118 rfl (lv_at hl 1 rfl) ?_
          refine kVi0 (rest := []) F hl V [0, 1, 2, 3, 4, 5, 6, 7] [] [0, 1, 2, 3, 4, 5, 6, 7] (gX12 g a_this a_this_z a_this_saved a_this_text a_this_line a_this_aside a_this_read a_this_fewest thrown z saves saved length text many line aside isWord entries rdA fewest h) a_this 8 0 rfl rfl (kX12_isTwo l g a_this a_this_z a_this_saved a_this_text a_this_line a_this_aside a_this_read a_this_fewest thrown z saves saved length text many line aside isWord entries rdA fewest h p1 _ hw) gX12_clash_X12_isTwo rfl 1 rfl hdX12_isTwo rfl rfl (fun _ => rfl) rfl rfl rfl (by decide) ⟨Nat.le_of_ble_eq_true rfl, Nat.le_of_ble_eq_true rfl⟩ ⟨Nat.le_of_ble_eq_true rfl, Nat.le_of_ble_eq_true rfl⟩ (Nat.le_of_ble_eq_true rfl) rfl dX12_clash_119 (fun r_119 H locs hw V => ?_)
          refine lv_if_eq (tgt := 129) hx hb dX12_clash_122 (by decide) (fun c_122 => ?_) (fun c_122 => ?_)
          · have hw := hw.1 c_122
            refine lv_iload_n hx hb dX12_clash_129 rfl (lv_at hl 3 rfl) ?_
            refine lv_if_eq (tgt := 137) hx hb dX12_clash_130 (by decide) (fun c_130 => ?_) (fun c_130 => ?_)
            · have hw := hw.1 c_130
              refine lv_iload hx hb dX12_clash_137 (lv_at hl 4 rfl) ?_
              refine lv_if_eq (tgt := 146) hx hb dX12_clash_139 (by decide) (fun c_139 => ?_) (fun c_139 => ?_)
              · have hw := hw.1 c_139
                refine lv_iconst (v := 0) hx hb dX12_clash_146 (by decide) ?_
                exact ret _ _ _ _ _ rfl dX12_clash_147 V hw
              · have hw := hw.2 c_139
                refine lv_iconst (v := 4) hx hb dX12_clash_142 (by decide) ?_
                refine lv_goto (tgt := 147) hx hb dX12_clash_143 (by decide) ?_
                exact ret _ _ _ _ _ rfl dX12_clash_147 V hw
            · have hw := hw.2 c_130
              refine lv_iconst (v := 3) hx hb dX12_clash_133 (by decide) ?_
              refine lv_goto (tgt := 147) hx hb dX12_clash_134 (by decide) ?_
              exact ret _ _ _ _ _ rfl dX12_clash_147 V hw
          · have hw := hw.2 c_122
            refine lv_iconst (v := 2) hx hb dX12_clash_125 (by decide) ?_
            refine lv_goto (tgt := 147) hx hb dX12_clash_126 (by decide) ?_
            exact ret _ _ _ _ _ rfl dX12_clash_147 V hw
        · have hw := hw.2 c_110
          refine lv_iconst (v := 1) hx hb dX12_clash_113 (by decide) ?_
          refine lv_goto (tgt := 147) hx hb dX12_clash_114 (by decide) ?_
          exact ret _ _ _ _ _ rfl dX12_clash_147 V hw
      · have hw := hw.2 c_18
        refine lv_iload_n hx hb dX12_clash_21 rfl (lv_at hl 2 rfl) ?_
        refine lv_if_ne (tgt := 42) hx hb dX12_clash_22 (by decide) (fun c_22 => ?_) (fun c_22 => ?_)
        · have hw := hw.1 c_22
          exact B42 (wX12_clash_10 z p1 P n) ih v3 v4 v5 V (lv_sub hl [0, 1, 3, 4, 5] rfl) hw
        · have hw := hw.2 c_22
          refine lv_iload hx hb dX12_clash_25 (lv_at hl 5 rfl) ?_
          refine lv_iload_n hx hb dX12_clash_27 rfl (lv_at hl 1 rfl) ?_
          refine lv_icmp_eq (tgt := 46) hx hb dX12_clash_28 (by decide) (fun c_28 => ?_) (fun c_28 => ?_)
          · have hw := hw.1 c_28
            exact B46 (wX12_clash_10 z p1 P n) ih v3 v4 v5 V (lv_sub hl [0, 1, 3, 4, 5] rfl) hw
          · have hw := hw.2 c_28
            refine lv_aload_n hx hb dX12_clash_31 rfl (lv_at hl 0 rfl) ?_
            refine lv_iload hx hb dX12_clash_32 (lv_at hl 5 rfl) ?_
            refine lv_iconst (v := 0) hx hb dX12_clash_34 (by decide) ?_
            refine lv_iload_n hx hb dX12_clash_35 rfl (lv_at hl 1 rfl) ?_
            refine kVi0 (rest := []) F hl V [0, 1, 2, 3, 4, 5, 6, 7] [] [0, 1, 2, 3, 4, 5, 6, 7] (gX12 g a_this a_this_z a_this_saved a_this_text a_this_line a_this_aside a_this_read a_this_fewest thrown z saves saved length text many line aside isWord entries rdA fewest h) a_this 8 0 rfl rfl (kX12_isIn l g a_this a_this_z a_this_saved a_this_text a_this_line a_this_aside a_this_read a_this_fewest thrown z saves saved length text many line aside isWord entries rdA fewest h v5 0 p1 _ hw) gX12_clash_X12_isIn rfl 3 rfl hdX12_isIn rfl rfl (fun _ => rfl) rfl rfl rfl (by decide) ⟨Nat.le_of_ble_eq_true rfl, Nat.le_of_ble_eq_true rfl⟩ ⟨Nat.le_of_ble_eq_true rfl, Nat.le_of_ble_eq_true rfl⟩ (Nat.le_of_ble_eq_true rfl) rfl dX12_clash_36 (fun r_36 H locs hw V => ?_)
            refine lv_if_eq (tgt := 46) hx hb dX12_clash_39 (by decide) (fun c_39 => ?_) (fun c_39 => ?_)
            · have hw := hw.1 c_39
              exact B46 (wX12_clash_10 z p1 P n) ih v3 v4 v5 V (lv_sub hl [0, 1, 3, 4, 5] rfl) hw
            · have hw := hw.2 c_39
              exact B42 (wX12_clash_10 z p1 P n) ih v3 v4 v5 V (lv_sub hl [0, 1, 3, 4, 5] rfl) hw
  refine lv_iconst (v := 0) hx hb dX12_clash_0 (by decide) ?_
  refine lv_istore_n (lv' := [(2, .int 0), (0, .ref a_this), (1, .int p1)]) hx hb dX12_clash_1 rfl hl (by decide) rfl (fun ls hl => ?_)
  refine lv_iconst (v := 0) hx hb dX12_clash_2 (by decide) ?_
  refine lv_istore_n (lv' := [(3, .int 0), (2, .int 0), (0, .ref a_this), (1, .int p1)]) hx hb dX12_clash_3 rfl hl (by decide) rfl (fun ls hl => ?_)
  refine lv_iconst (v := 0) hx hb dX12_clash_4 (by decide) ?_
  refine lv_istore (lv' := [(4, .int 0), (3, .int 0), (2, .int 0), (0, .ref a_this), (1, .int p1)]) hx hb dX12_clash_5 hl (by decide) rfl (fun ls hl => ?_)
  refine lv_iconst (v := 0) hx hb dX12_clash_7 (by decide) ?_
  refine lv_istore (lv' := [(5, .int 0), (4, .int 0), (3, .int 0), (2, .int 0), (0, .ref a_this), (1, .int p1)]) hx hb dX12_clash_8 hl (by decide) rfl (fun ls hl => ?_)
  obtain ⟨n_10, hw⟩ := hw
  exact B10  n_10 0 0 0 0 V (lv_sub hl [4, 5, 3, 2, 1, 0] rfl) hw
theorem hdX12_longestAt : yX12_longestAt.cls = RX12 ∧ yX12_longestAt.cls ≠ "java/lang/invoke/MethodHandle" ∧ yX12_longestAt.cls ≠ "java/lang/invoke/VarHandle" ∧ (parseMethodDescriptor yX12_longestAt.desc).map (fun d => d.parameters.length) = some 1 := by decide +kernel
theorem fX12_longestAt_7 : Cond.fieldLink RX12 7 RX12 "z" "[I" ∈ wsX12_longestAt := by decide +kernel
theorem iX12_longestAt_X12 : ∀ w ∈ u_ws RX12 TX12 14, w ∈ wsX12_longestAt := by decide +kernel
theorem fX12_longestAt_54 : Cond.fieldLink RX12 54 RX12 "many" "I" ∈ wsX12_longestAt := by decide +kernel
theorem fX12_longestAt_19 : Cond.fieldLink RX12 19 RX12 "line" "[I" ∈ wsX12_longestAt := by decide +kernel
def wX12_longestAt_126 (z : Nat → Int32) (many : Int32) (line : Nat → Int32) (p1 : Int32) (K4 : Int32 → Int32 → Prop) (P : Int32 → Prop) (v3 : Int32) (s0 : Int32) : Prop := K4 s0 (v3 + 1)
def wX12_longestAt_125 (z : Nat → Int32) (many : Int32) (line : Nat → Int32) (p1 : Int32) (K4 : Int32 → Int32 → Prop) (P : Int32 → Prop) (v2 : Int32) (v3 : Int32) : Prop := wX12_longestAt_126 z many line p1 K4 P v3 v2
def wX12_longestAt_121 (z : Nat → Int32) (many : Int32) (line : Nat → Int32) (p1 : Int32) (K4 : Int32 → Int32 → Prop) (P : Int32 → Prop) (v3 : Int32) : Prop := wX12_longestAt_126 z many line p1 K4 P v3 v3
def wX12_longestAt_97 (z : Nat → Int32) (many : Int32) (line : Nat → Int32) (p1 : Int32) (K4 : Int32 → Int32 → Prop) (P : Int32 → Prop) (v2 : Int32) (v3 : Int32) (v4 : Int32) (v5 : Int32) : Prop := (v5 = 0 → wX12_longestAt_125 z many line p1 K4 P v2 v3) ∧ (¬ (v5 = 0) → (v2 = (-1) → wX12_longestAt_121 z many line p1 K4 P v3) ∧ (¬ (v2 = (-1)) → wX12_entryAt v2 (fun r_114 => vp_in r_114 1317 ∧ (v4 ≤ (z r_114.toNatClampNeg) → wX12_longestAt_125 z many line p1 K4 P v2 v3) ∧ (¬ (v4 ≤ (z r_114.toNatClampNeg)) → wX12_longestAt_121 z many line p1 K4 P v3))))
def wX12_longestAt_89 (z : Nat → Int32) (many : Int32) (line : Nat → Int32) (p1 : Int32) (K4 : Int32 → Int32 → Prop) (K46 : Int32 → Int32 → Int32 → Int32 → Int32 → Prop) (P : Int32 → Prop) (v2 : Int32) (v3 : Int32) (v4 : Int32) (v6 : Int32) (s0 : Int32) : Prop := K46 v2 v3 v4 s0 (v6 + 1)
def wX12_longestAt_46 (z : Nat → Int32) (many : Int32) (line : Nat → Int32) (p1 : Int32) (K4 : Int32 → Int32 → Prop) (P : Int32 → Prop) : Nat → Int32 → Int32 → Int32 → Int32 → Int32 → Prop
  | 0, _, _, _, _, _ => False
  | n + 1, v2, v3, v4, v5, v6 => (v4 ≤ v6 → wX12_longestAt_97 z many line p1 K4 P v2 v3 v4 v5) ∧ (¬ (v4 ≤ v6) → (v5 = 0 → wX12_longestAt_97 z many line p1 K4 P v2 v3 v4 v5) ∧ (¬ (v5 = 0) → vp_in (p1 + v6) 240 ∧ wX12_entryAt v3 (fun r_72 => vp_in ((r_72 + 1) + v6) 1317 ∧ (¬ (line (p1 + v6).toNatClampNeg) = (z ((r_72 + 1) + v6).toNatClampNeg) → wX12_longestAt_89 z many line p1 K4 (wX12_longestAt_46 z many line p1 K4 P n) P v2 v3 v4 v6 0) ∧ ((line (p1 + v6).toNatClampNeg) = (z ((r_72 + 1) + v6).toNatClampNeg) → wX12_longestAt_89 z many line p1 K4 (wX12_longestAt_46 z many line p1 K4 P n) P v2 v3 v4 v6 1))))
def wX12_longestAt_41 (z : Nat → Int32) (many : Int32) (line : Nat → Int32) (p1 : Int32) (K4 : Int32 → Int32 → Prop) (P : Int32 → Prop) (v2 : Int32) (v3 : Int32) (v4 : Int32) (s0 : Int32) : Prop := ∃ n_46, wX12_longestAt_46 z many line p1 K4 P n_46 v2 v3 v4 s0 0
def wX12_longestAt_4 (z : Nat → Int32) (many : Int32) (line : Nat → Int32) (p1 : Int32) (P : Int32 → Prop) : Nat → Int32 → Int32 → Prop
  | 0, _, _ => False
  | n + 1, v2, v3 => vp_in 0 1317 ∧ ((z (0 : Int32).toNatClampNeg) ≤ v3 → P v2) ∧ (¬ ((z (0 : Int32).toNatClampNeg) ≤ v3) → wX12_entryAt v3 (fun r_19 => vp_in r_19 1317 ∧ ∀ v4_23 : Int32, v4_23 = (z r_19.toNatClampNeg) → (many < (p1 + v4_23) → wX12_longestAt_41 z many line p1 (wX12_longestAt_4 z many line p1 P n) P v2 v3 v4_23 0) ∧ (¬ (many < (p1 + v4_23)) → wX12_longestAt_41 z many line p1 (wX12_longestAt_4 z many line p1 P n) P v2 v3 v4_23 1)))
def wX12_longestAt (z : Nat → Int32) (many : Int32) (line : Nat → Int32) (p1 : Int32) (P : Int32 → Prop) : Prop := ∃ n_4, wX12_longestAt_4 z many line p1 P n_4 (-1) 0
set_option maxHeartbeats 4000000 in
set_option maxRecDepth 100000 in
theorem kX12_longestAt (l : Launch) (g : kT) (a_this : Nat) (a_this_z : Nat) (a_this_saved : Nat) (a_this_text : Nat) (a_this_line : Nat) (a_this_aside : Nat) (a_this_read : Nat) (a_this_fewest : Nat) (thrown : Int32) (z : Nat → Int32) (saves : Int32) (saved : Nat → Int32) (length : Int32) (text : Nat → Int32) (many : Int32) (line : Nat → Int32) (aside : Nat → Int32) (isWord : Int32) (entries : Int32) (rdA : Nat → Int32) (fewest : Nat → Int32) (h : Int64) (p1 : Int32) (P : Int32 → Prop) (hw : wX12_longestAt z many line p1 P) : Ki0 l g yX12_longestAt wsX12_longestAt 1 20 0 0 [.ref a_this, .int p1] (gX12 g a_this a_this_z a_this_saved a_this_text a_this_line a_this_aside a_this_read a_this_fewest thrown z saves saved length text many line aside isWord entries rdA fewest h) P (gX12 g a_this a_this_z a_this_saved a_this_text a_this_line a_this_aside a_this_read a_this_fewest thrown z saves saved length text many line aside isWord entries rdA fewest h) := by
  refine Ki0.mk (cc := cX12_longestAt) (nL := 7) (ty := .int) (by decide +kernel) rfl (Nat.le_of_ble_eq_true rfl) ?_
  intro p e s m below meth c A Q ls F hl V ret
  have hx := F.x
  have hb := F.b
  have hl : lv_has ls 7 [(0, .ref a_this), (1, .int p1)] := hl
  have B126 : ∀ (K4 : Int32 → Int32 → Prop) (k4 : ∀ {H : Heap} {locs : List Loc} {ls : Array Slot} (v2 : Int32) (v3 : Int32), VW g A s.heap H locs (gX12 g a_this a_this_z a_this_saved a_this_text a_this_line a_this_aside a_this_read a_this_fewest thrown z saves saved length text many line aside isWord entries rdA fewest h) → lv_has ls 7 [(0, .ref a_this), (1, .int p1), (2, .int v2), (3, .int v3)] → K4 v2 v3 → W p l e (kR 1 20 0 0) s m ([.ref a_this, .int p1] : List Value).toArray below meth c H locs 0 0 Q (F0 m 4 ls [])), ∀ {H : Heap} {locs : List Loc} {ls : Array Slot} (v3 : Int32) (s0 : Int32) (V : VW g A s.heap H locs (gX12 g a_this a_this_z a_this_saved a_this_text a_this_line a_this_aside a_this_read a_this_fewest thrown z saves saved length text many line aside isWord entries rdA fewest h)) (hl : lv_has ls 7 [(0, .ref a_this), (1, .int p1), (3, .int v3)]) (hw : wX12_longestAt_126 z many line p1 K4 P v3 s0), W p l e (kR 1 20 0 0) s m ([.ref a_this, .int p1] : List Value).toArray below meth c H locs 0 0 Q (F0 m 126 ls [.int s0]) := by
    intro K4 k4 H locs ls v3 s0 V hl hw
    refine lv_istore_n (lv' := [(2, .int s0), (0, .ref a_this), (1, .int p1), (3, .int v3)]) hx hb dX12_longestAt_126 rfl hl (by decide) rfl (fun ls hl => ?_)
    refine lv_iinc (v := v3 + 1) (lv' := [(3, .int (v3 + 1)), (2, .int s0), (0, .ref a_this), (1, .int p1)]) hx hb dX12_longestAt_127 hl (k := 3) rfl rfl (by decide) rfl (fun ls hl => ?_)
    refine lv_goto (tgt := 4) hx hb dX12_longestAt_130 (by decide) ?_
    exact k4 s0 (v3 + 1) V (lv_sub hl [2, 3, 1, 0] rfl) hw
  have B125 : ∀ (K4 : Int32 → Int32 → Prop) (k4 : ∀ {H : Heap} {locs : List Loc} {ls : Array Slot} (v2 : Int32) (v3 : Int32), VW g A s.heap H locs (gX12 g a_this a_this_z a_this_saved a_this_text a_this_line a_this_aside a_this_read a_this_fewest thrown z saves saved length text many line aside isWord entries rdA fewest h) → lv_has ls 7 [(0, .ref a_this), (1, .int p1), (2, .int v2), (3, .int v3)] → K4 v2 v3 → W p l e (kR 1 20 0 0) s m ([.ref a_this, .int p1] : List Value).toArray below meth c H locs 0 0 Q (F0 m 4 ls [])), ∀ {H : Heap} {locs : List Loc} {ls : Array Slot} (v2 : Int32) (v3 : Int32) (V : VW g A s.heap H locs (gX12 g a_this a_this_z a_this_saved a_this_text a_this_line a_this_aside a_this_read a_this_fewest thrown z saves saved length text many line aside isWord entries rdA fewest h)) (hl : lv_has ls 7 [(0, .ref a_this), (1, .int p1), (2, .int v2), (3, .int v3)]) (hw : wX12_longestAt_125 z many line p1 K4 P v2 v3), W p l e (kR 1 20 0 0) s m ([.ref a_this, .int p1] : List Value).toArray below meth c H locs 0 0 Q (F0 m 125 ls []) := by
    intro K4 k4 H locs ls v2 v3 V hl hw
    refine lv_iload_n hx hb dX12_longestAt_125 rfl (lv_at hl 2 rfl) ?_
    exact B126 K4 k4 v3 v2 V (lv_sub hl [0, 1, 3] rfl) hw
  have B121 : ∀ (K4 : Int32 → Int32 → Prop) (k4 : ∀ {H : Heap} {locs : List Loc} {ls : Array Slot} (v2 : Int32) (v3 : Int32), VW g A s.heap H locs (gX12 g a_this a_this_z a_this_saved a_this_text a_this_line a_this_aside a_this_read a_this_fewest thrown z saves saved length text many line aside isWord entries rdA fewest h) → lv_has ls 7 [(0, .ref a_this), (1, .int p1), (2, .int v2), (3, .int v3)] → K4 v2 v3 → W p l e (kR 1 20 0 0) s m ([.ref a_this, .int p1] : List Value).toArray below meth c H locs 0 0 Q (F0 m 4 ls [])), ∀ {H : Heap} {locs : List Loc} {ls : Array Slot} (v3 : Int32) (V : VW g A s.heap H locs (gX12 g a_this a_this_z a_this_saved a_this_text a_this_line a_this_aside a_this_read a_this_fewest thrown z saves saved length text many line aside isWord entries rdA fewest h)) (hl : lv_has ls 7 [(0, .ref a_this), (1, .int p1), (3, .int v3)]) (hw : wX12_longestAt_121 z many line p1 K4 P v3), W p l e (kR 1 20 0 0) s m ([.ref a_this, .int p1] : List Value).toArray below meth c H locs 0 0 Q (F0 m 121 ls []) := by
    intro K4 k4 H locs ls v3 V hl hw
    refine lv_iload_n hx hb dX12_longestAt_121 rfl (lv_at hl 2 rfl) ?_
    refine lv_goto (tgt := 126) hx hb dX12_longestAt_122 (by decide) ?_
    exact B126 K4 k4 v3 v3 V hl hw
  have B97 : ∀ (K4 : Int32 → Int32 → Prop) (k4 : ∀ {H : Heap} {locs : List Loc} {ls : Array Slot} (v2 : Int32) (v3 : Int32), VW g A s.heap H locs (gX12 g a_this a_this_z a_this_saved a_this_text a_this_line a_this_aside a_this_read a_this_fewest thrown z saves saved length text many line aside isWord entries rdA fewest h) → lv_has ls 7 [(0, .ref a_this), (1, .int p1), (2, .int v2), (3, .int v3)] → K4 v2 v3 → W p l e (kR 1 20 0 0) s m ([.ref a_this, .int p1] : List Value).toArray below meth c H locs 0 0 Q (F0 m 4 ls [])), ∀ {H : Heap} {locs : List Loc} {ls : Array Slot} (v2 : Int32) (v3 : Int32) (v4 : Int32) (v5 : Int32) (V : VW g A s.heap H locs (gX12 g a_this a_this_z a_this_saved a_this_text a_this_line a_this_aside a_this_read a_this_fewest thrown z saves saved length text many line aside isWord entries rdA fewest h)) (hl : lv_has ls 7 [(0, .ref a_this), (1, .int p1), (2, .int v2), (3, .int v3), (4, .int v4), (5, .int v5)]) (hw : wX12_longestAt_97 z many line p1 K4 P v2 v3 v4 v5), W p l e (kR 1 20 0 0) s m ([.ref a_this, .int p1] : List Value).toArray below meth c H locs 0 0 Q (F0 m 97 ls []) := by
    intro K4 k4 H locs ls v2 v3 v4 v5 V hl hw
    refine lv_iload hx hb dX12_longestAt_97 (lv_at hl 5 rfl) ?_
    refine lv_if_eq (tgt := 125) hx hb dX12_longestAt_99 (by decide) (fun c_99 => ?_) (fun c_99 => ?_)
    · have hw := hw.1 c_99
      exact B125 K4 k4 v2 v3 V (lv_sub hl [0, 1, 2, 3] rfl) hw
    · have hw := hw.2 c_99
      refine lv_iload_n hx hb dX12_longestAt_102 rfl (lv_at hl 2 rfl) ?_
      refine lv_iconst (v := (-1)) hx hb dX12_longestAt_103 (by decide) ?_
      refine lv_icmp_eq (tgt := 121) hx hb dX12_longestAt_104 (by decide) (fun c_104 => ?_) (fun c_104 => ?_)
      · have hw := hw.1 c_104
        exact B121 K4 k4 v3 V (lv_sub hl [0, 1, 3] rfl) hw
      · have hw := hw.2 c_104
        refine lv_iload hx hb dX12_longestAt_107 (lv_at hl 4 rfl) ?_
        refine lv_aload_n hx hb dX12_longestAt_109 rfl (lv_at hl 0 rfl) ?_
        refine kget F V 8 1 0 rfl rfl iX12_longestAt_X12 fX12_longestAt_7 (by decide) rfl rfl dX12_longestAt_110 ?_
        refine lv_iload_n hx hb dX12_longestAt_113 rfl (lv_at hl 2 rfl) ?_
        refine kSi0n (rest := [.ref a_this_z, .int v4]) F hl V (kX12_entryAt l g v2 _ hw) gX12_longestAt_X12_entryAt rfl 1 rfl hdX12_entryAt ⟨Nat.le_of_ble_eq_true rfl, Nat.le_of_ble_eq_true rfl⟩ ⟨Nat.le_of_ble_eq_true rfl, Nat.le_of_ble_eq_true rfl⟩ (Nat.le_of_ble_eq_true rfl) rfl dX12_longestAt_114 (fun r_114 H locs hw V => ?_)
        refine kiald F V 1 rfl hw.1 dX12_longestAt_117 ?_
        have hw := hw.2
        refine lv_icmp_le (tgt := 125) hx hb dX12_longestAt_118 (by decide) (fun c_118 => ?_) (fun c_118 => ?_)
        · have hw := hw.1 c_118
          exact B125 K4 k4 v2 v3 V (lv_sub hl [0, 1, 2, 3] rfl) hw
        · have hw := hw.2 c_118
          exact B121 K4 k4 v3 V (lv_sub hl [0, 1, 3] rfl) hw
  have B89 : ∀ (K4 : Int32 → Int32 → Prop) (k4 : ∀ {H : Heap} {locs : List Loc} {ls : Array Slot} (v2 : Int32) (v3 : Int32), VW g A s.heap H locs (gX12 g a_this a_this_z a_this_saved a_this_text a_this_line a_this_aside a_this_read a_this_fewest thrown z saves saved length text many line aside isWord entries rdA fewest h) → lv_has ls 7 [(0, .ref a_this), (1, .int p1), (2, .int v2), (3, .int v3)] → K4 v2 v3 → W p l e (kR 1 20 0 0) s m ([.ref a_this, .int p1] : List Value).toArray below meth c H locs 0 0 Q (F0 m 4 ls [])) (K46 : Int32 → Int32 → Int32 → Int32 → Int32 → Prop) (k46 : ∀ {H : Heap} {locs : List Loc} {ls : Array Slot} (v2 : Int32) (v3 : Int32) (v4 : Int32) (v5 : Int32) (v6 : Int32), VW g A s.heap H locs (gX12 g a_this a_this_z a_this_saved a_this_text a_this_line a_this_aside a_this_read a_this_fewest thrown z saves saved length text many line aside isWord entries rdA fewest h) → lv_has ls 7 [(0, .ref a_this), (1, .int p1), (2, .int v2), (3, .int v3), (4, .int v4), (5, .int v5), (6, .int v6)] → K46 v2 v3 v4 v5 v6 → W p l e (kR 1 20 0 0) s m ([.ref a_this, .int p1] : List Value).toArray below meth c H locs 0 0 Q (F0 m 46 ls [])), ∀ {H : Heap} {locs : List Loc} {ls : Array Slot} (v2 : Int32) (v3 : Int32) (v4 : Int32) (v6 : Int32) (s0 : Int32) (V : VW g A s.heap H locs (gX12 g a_this a_this_z a_this_saved a_this_text a_this_line a_this_aside a_this_read a_this_fewest thrown z saves saved length text many line aside isWord entries rdA fewest h)) (hl : lv_has ls 7 [(0, .ref a_this), (1, .int p1), (2, .int v2), (3, .int v3), (4, .int v4), (6, .int v6)]) (hw : wX12_longestAt_89 z many line p1 K4 K46 P v2 v3 v4 v6 s0), W p l e (kR 1 20 0 0) s m ([.ref a_this, .int p1] : List Value).toArray below meth c H locs 0 0 Q (F0 m 89 ls [.int s0]) := by
    intro K4 k4 K46 k46 H locs ls v2 v3 v4 v6 s0 V hl hw
    refine lv_istore (lv' := [(5, .int s0), (0, .ref a_this), (1, .int p1), (2, .int v2), (3, .int v3), (4, .int v4), (6, .int v6)]) hx hb dX12_longestAt_89 hl (by decide) rfl (fun ls hl => ?_)
    refine lv_iinc (v := v6 + 1) (lv' := [(6, .int (v6 + 1)), (5, .int s0), (0, .ref a_this), (1, .int p1), (2, .int v2), (3, .int v3), (4, .int v4)]) hx hb dX12_longestAt_91 hl (k := 6) rfl rfl (by decide) rfl (fun ls hl => ?_)
    refine lv_goto (tgt := 46) hx hb dX12_longestAt_94 (by decide) ?_
    exact k46 v2 v3 v4 s0 (v6 + 1) V (lv_sub hl [2, 3, 4, 5, 6, 1, 0] rfl) hw
  have B46 : ∀ (K4 : Int32 → Int32 → Prop) (k4 : ∀ {H : Heap} {locs : List Loc} {ls : Array Slot} (v2 : Int32) (v3 : Int32), VW g A s.heap H locs (gX12 g a_this a_this_z a_this_saved a_this_text a_this_line a_this_aside a_this_read a_this_fewest thrown z saves saved length text many line aside isWord entries rdA fewest h) → lv_has ls 7 [(0, .ref a_this), (1, .int p1), (2, .int v2), (3, .int v3)] → K4 v2 v3 → W p l e (kR 1 20 0 0) s m ([.ref a_this, .int p1] : List Value).toArray below meth c H locs 0 0 Q (F0 m 4 ls [])), ∀ (n : Nat), ∀ {H : Heap} {locs : List Loc} {ls : Array Slot} (v2 : Int32) (v3 : Int32) (v4 : Int32) (v5 : Int32) (v6 : Int32) (V : VW g A s.heap H locs (gX12 g a_this a_this_z a_this_saved a_this_text a_this_line a_this_aside a_this_read a_this_fewest thrown z saves saved length text many line aside isWord entries rdA fewest h)) (hl : lv_has ls 7 [(0, .ref a_this), (1, .int p1), (2, .int v2), (3, .int v3), (4, .int v4), (5, .int v5), (6, .int v6)]) (hw : wX12_longestAt_46 z many line p1 K4 P n v2 v3 v4 v5 v6), W p l e (kR 1 20 0 0) s m ([.ref a_this, .int p1] : List Value).toArray below meth c H locs 0 0 Q (F0 m 46 ls []) := by
    intro K4 k4
    intro n
    induction n with
    | zero => intro _ _ _ _ _ _ _ _ V hl hw; exact hw.elim
    | succ n ih =>
      intro H locs ls v2 v3 v4 v5 v6 V hl hw
      refine lv_iload hx hb dX12_longestAt_46 (lv_at hl 6 rfl) ?_
      refine lv_iload hx hb dX12_longestAt_48 (lv_at hl 4 rfl) ?_
      refine lv_icmp_ge (tgt := 97) hx hb dX12_longestAt_50 (by decide) (fun c_50 => ?_) (fun c_50 => ?_)
      · have hw := hw.1 c_50
        exact B97 K4 k4 v2 v3 v4 v5 V (lv_sub hl [0, 1, 2, 3, 4, 5] rfl) hw
      · have hw := hw.2 c_50
        refine lv_iload hx hb dX12_longestAt_53 (lv_at hl 5 rfl) ?_
        refine lv_if_eq (tgt := 97) hx hb dX12_longestAt_55 (by decide) (fun c_55 => ?_) (fun c_55 => ?_)
        · have hw := hw.1 c_55
          exact B97 K4 k4 v2 v3 v4 v5 V (lv_sub hl [0, 1, 2, 3, 4, 5] rfl) hw
        · have hw := hw.2 c_55
          refine lv_aload_n hx hb dX12_longestAt_58 rfl (lv_at hl 0 rfl) ?_
          refine kget F V 8 7 0 rfl rfl iX12_longestAt_X12 fX12_longestAt_19 (by decide) rfl rfl dX12_longestAt_59 ?_
          refine lv_iload_n hx hb dX12_longestAt_62 rfl (lv_at hl 1 rfl) ?_
          refine lv_iload hx hb dX12_longestAt_63 (lv_at hl 6 rfl) ?_
          refine lv_iadd hx hb dX12_longestAt_65 ?_
          refine kiald F V 4 rfl hw.1 dX12_longestAt_66 ?_
          have hw := hw.2
          refine lv_aload_n hx hb dX12_longestAt_67 rfl (lv_at hl 0 rfl) ?_
          refine kget F V 8 1 0 rfl rfl iX12_longestAt_X12 fX12_longestAt_7 (by decide) rfl rfl dX12_longestAt_68 ?_
          refine lv_iload_n hx hb dX12_longestAt_71 rfl (lv_at hl 3 rfl) ?_
          refine kSi0n (rest := [.ref a_this_z, .int (line (p1 + v6).toNatClampNeg)]) F hl V (kX12_entryAt l g v3 _ hw) gX12_longestAt_X12_entryAt rfl 1 rfl hdX12_entryAt ⟨Nat.le_of_ble_eq_true rfl, Nat.le_of_ble_eq_true rfl⟩ ⟨Nat.le_of_ble_eq_true rfl, Nat.le_of_ble_eq_true rfl⟩ (Nat.le_of_ble_eq_true rfl) rfl dX12_longestAt_72 (fun r_72 H locs hw V => ?_)
          refine lv_iconst (v := 1) hx hb dX12_longestAt_75 (by decide) ?_
          refine lv_iadd hx hb dX12_longestAt_76 ?_
          refine lv_iload hx hb dX12_longestAt_77 (lv_at hl 6 rfl) ?_
          refine lv_iadd hx hb dX12_longestAt_79 ?_
          refine kiald F V 1 rfl hw.1 dX12_longestAt_80 ?_
          have hw := hw.2
          refine lv_icmp_ne (tgt := 88) hx hb dX12_longestAt_81 (by decide) (fun c_81 => ?_) (fun c_81 => ?_)
          · have hw := hw.1 c_81
            refine lv_iconst (v := 0) hx hb dX12_longestAt_88 (by decide) ?_
            exact B89 K4 k4 (wX12_longestAt_46 z many line p1 K4 P n) ih v2 v3 v4 v6 0 V (lv_sub hl [0, 1, 2, 3, 4, 6] rfl) hw
          · have hw := hw.2 c_81
            refine lv_iconst (v := 1) hx hb dX12_longestAt_84 (by decide) ?_
            refine lv_goto (tgt := 89) hx hb dX12_longestAt_85 (by decide) ?_
            exact B89 K4 k4 (wX12_longestAt_46 z many line p1 K4 P n) ih v2 v3 v4 v6 1 V (lv_sub hl [0, 1, 2, 3, 4, 6] rfl) hw
  have B41 : ∀ (K4 : Int32 → Int32 → Prop) (k4 : ∀ {H : Heap} {locs : List Loc} {ls : Array Slot} (v2 : Int32) (v3 : Int32), VW g A s.heap H locs (gX12 g a_this a_this_z a_this_saved a_this_text a_this_line a_this_aside a_this_read a_this_fewest thrown z saves saved length text many line aside isWord entries rdA fewest h) → lv_has ls 7 [(0, .ref a_this), (1, .int p1), (2, .int v2), (3, .int v3)] → K4 v2 v3 → W p l e (kR 1 20 0 0) s m ([.ref a_this, .int p1] : List Value).toArray below meth c H locs 0 0 Q (F0 m 4 ls [])), ∀ {H : Heap} {locs : List Loc} {ls : Array Slot} (v2 : Int32) (v3 : Int32) (v4 : Int32) (s0 : Int32) (V : VW g A s.heap H locs (gX12 g a_this a_this_z a_this_saved a_this_text a_this_line a_this_aside a_this_read a_this_fewest thrown z saves saved length text many line aside isWord entries rdA fewest h)) (hl : lv_has ls 7 [(0, .ref a_this), (1, .int p1), (2, .int v2), (3, .int v3), (4, .int v4)]) (hw : wX12_longestAt_41 z many line p1 K4 P v2 v3 v4 s0), W p l e (kR 1 20 0 0) s m ([.ref a_this, .int p1] : List Value).toArray below meth c H locs 0 0 Q (F0 m 41 ls [.int s0]) := by
    intro K4 k4 H locs ls v2 v3 v4 s0 V hl hw
    refine lv_istore (lv' := [(5, .int s0), (0, .ref a_this), (1, .int p1), (2, .int v2), (3, .int v3), (4, .int v4)]) hx hb dX12_longestAt_41 hl (by decide) rfl (fun ls hl => ?_)
    refine lv_iconst (v := 0) hx hb dX12_longestAt_43 (by decide) ?_
    refine lv_istore (lv' := [(6, .int 0), (5, .int s0), (0, .ref a_this), (1, .int p1), (2, .int v2), (3, .int v3), (4, .int v4)]) hx hb dX12_longestAt_44 hl (by decide) rfl (fun ls hl => ?_)
    obtain ⟨n_46, hw⟩ := hw
    exact B46 K4 k4 n_46 v2 v3 v4 s0 0 V (lv_sub hl [2, 3, 4, 5, 6, 1, 0] rfl) hw
  have B4 :  ∀ (n : Nat), ∀ {H : Heap} {locs : List Loc} {ls : Array Slot} (v2 : Int32) (v3 : Int32) (V : VW g A s.heap H locs (gX12 g a_this a_this_z a_this_saved a_this_text a_this_line a_this_aside a_this_read a_this_fewest thrown z saves saved length text many line aside isWord entries rdA fewest h)) (hl : lv_has ls 7 [(0, .ref a_this), (1, .int p1), (2, .int v2), (3, .int v3)]) (hw : wX12_longestAt_4 z many line p1 P n v2 v3), W p l e (kR 1 20 0 0) s m ([.ref a_this, .int p1] : List Value).toArray below meth c H locs 0 0 Q (F0 m 4 ls []) := by
    intro n
    induction n with
    | zero => intro _ _ _ _ _ V hl hw; exact hw.elim
    | succ n ih =>
      intro H locs ls v2 v3 V hl hw
      refine lv_iload_n hx hb dX12_longestAt_4 rfl (lv_at hl 3 rfl) ?_
      refine lv_aload_n hx hb dX12_longestAt_5 rfl (lv_at hl 0 rfl) ?_
      refine kget F V 8 1 0 rfl rfl iX12_longestAt_X12 fX12_longestAt_7 (by decide) rfl rfl dX12_longestAt_6 ?_
      refine lv_iconst (v := 0) hx hb dX12_longestAt_9 (by decide) ?_
      refine kiald F V 1 rfl hw.1 dX12_longestAt_10 ?_
      have hw := hw.2
      refine lv_icmp_ge (tgt := 133) hx hb dX12_longestAt_11 (by decide) (fun c_11 => ?_) (fun c_11 => ?_)
      · have hw := hw.1 c_11
        refine lv_iload_n hx hb dX12_longestAt_133 rfl (lv_at hl 2 rfl) ?_
        exact ret _ _ _ _ _ rfl dX12_longestAt_134 V hw
      · have hw := hw.2 c_11
        refine lv_aload_n hx hb dX12_longestAt_14 rfl (lv_at hl 0 rfl) ?_
        refine kget F V 8 1 0 rfl rfl iX12_longestAt_X12 fX12_longestAt_7 (by decide) rfl rfl dX12_longestAt_15 ?_
        refine lv_iload_n hx hb dX12_longestAt_18 rfl (lv_at hl 3 rfl) ?_
        refine kSi0n (rest := [.ref a_this_z]) F hl V (kX12_entryAt l g v3 _ hw) gX12_longestAt_X12_entryAt rfl 1 rfl hdX12_entryAt ⟨Nat.le_of_ble_eq_true rfl, Nat.le_of_ble_eq_true rfl⟩ ⟨Nat.le_of_ble_eq_true rfl, Nat.le_of_ble_eq_true rfl⟩ (Nat.le_of_ble_eq_true rfl) rfl dX12_longestAt_19 (fun r_19 H locs hw V => ?_)
        refine kiald F V 1 rfl hw.1 dX12_longestAt_22 ?_
        have hw := hw.2
        refine lv_topi (fun v4_23 ev4_23 => ?_)
        have hw := hw v4_23 ev4_23
        refine lv_istore (lv' := [(4, .int v4_23), (0, .ref a_this), (1, .int p1), (2, .int v2), (3, .int v3)]) hx hb dX12_longestAt_23 hl (by decide) rfl (fun ls hl => ?_)
        refine lv_iload_n hx hb dX12_longestAt_25 rfl (lv_at hl 2 rfl) ?_
        refine lv_iload hx hb dX12_longestAt_26 (lv_at hl 0 rfl) ?_
        refine lv_iadd hx hb dX12_longestAt_28 ?_
        refine lv_aload_n hx hb dX12_longestAt_29 rfl (lv_at hl 1 rfl) ?_
        refine kget F V 8 6 0 rfl rfl iX12_longestAt_X12 fX12_longestAt_54 (by decide) rfl rfl dX12_longestAt_30 ?_
        refine lv_icmp_gt (tgt := 40) hx hb dX12_longestAt_33 (by decide) (fun c_33 => ?_) (fun c_33 => ?_)
        · have hw := hw.1 c_33
          refine lv_iconst (v := 0) hx hb dX12_longestAt_40 (by decide) ?_
          exact B41 (wX12_longestAt_4 z many line p1 P n) ih v2 v3 v4_23 0 V (lv_sub hl [1, 2, 3, 4, 0] rfl) hw
        · have hw := hw.2 c_33
          refine lv_iconst (v := 1) hx hb dX12_longestAt_36 (by decide) ?_
          refine lv_goto (tgt := 41) hx hb dX12_longestAt_37 (by decide) ?_
          exact B41 (wX12_longestAt_4 z many line p1 P n) ih v2 v3 v4_23 1 V (lv_sub hl [1, 2, 3, 4, 0] rfl) hw
  refine lv_iconst (v := (-1)) hx hb dX12_longestAt_0 (by decide) ?_
  refine lv_istore_n (lv' := [(2, .int (-1)), (0, .ref a_this), (1, .int p1)]) hx hb dX12_longestAt_1 rfl hl (by decide) rfl (fun ls hl => ?_)
  refine lv_iconst (v := 0) hx hb dX12_longestAt_2 (by decide) ?_
  refine lv_istore_n (lv' := [(3, .int 0), (2, .int (-1)), (0, .ref a_this), (1, .int p1)]) hx hb dX12_longestAt_3 rfl hl (by decide) rfl (fun ls hl => ?_)
  obtain ⟨n_4, hw⟩ := hw
  exact B4  n_4 (-1) 0 V (lv_sub hl [2, 3, 1, 0] rfl) hw
theorem hdX12_fixedStrokes : yX12_fixedStrokes.cls = RX12 ∧ yX12_fixedStrokes.cls ≠ "java/lang/invoke/MethodHandle" ∧ yX12_fixedStrokes.cls ≠ "java/lang/invoke/VarHandle" ∧ (parseMethodDescriptor yX12_fixedStrokes.desc).map (fun d => d.parameters.length) = some 0 := by decide +kernel
theorem fX12_fixedStrokes_7 : Cond.fieldLink RX12 7 RX12 "z" "[I" ∈ wsX12_fixedStrokes := by decide +kernel
theorem iX12_fixedStrokes_X12 : ∀ w ∈ u_ws RX12 TX12 14, w ∈ wsX12_fixedStrokes := by decide +kernel
def wX12_fixedStrokes_4 (z : Nat → Int32) (P : Int32 → Prop) : Nat → Int32 → Int32 → Prop
  | 0, _, _ => False
  | n + 1, v1, v2 => vp_in 1315 1317 ∧ ((z (1315 : Int32).toNatClampNeg) ≤ v2 → P v1) ∧ (¬ ((z (1315 : Int32).toNatClampNeg) ≤ v2) → wX12_itemAt v2 (fun r_22 => vp_in r_22 1317 ∧ ∀ v1_27 : Int32, v1_27 = (v1 + (z r_22.toNatClampNeg)) → (wX12_fixedStrokes_4 z P n) v1_27 (v2 + 1)))
def wX12_fixedStrokes (z : Nat → Int32) (P : Int32 → Prop) : Prop := ∃ n_4, wX12_fixedStrokes_4 z P n_4 0 0
set_option maxHeartbeats 4000000 in
set_option maxRecDepth 100000 in
theorem kX12_fixedStrokes (l : Launch) (g : kT) (a_this : Nat) (a_this_z : Nat) (a_this_saved : Nat) (a_this_text : Nat) (a_this_line : Nat) (a_this_aside : Nat) (a_this_read : Nat) (a_this_fewest : Nat) (thrown : Int32) (z : Nat → Int32) (saves : Int32) (saved : Nat → Int32) (length : Int32) (text : Nat → Int32) (many : Int32) (line : Nat → Int32) (aside : Nat → Int32) (isWord : Int32) (entries : Int32) (rdA : Nat → Int32) (fewest : Nat → Int32) (h : Int64) (P : Int32 → Prop) (hw : wX12_fixedStrokes z P) : Ki0 l g yX12_fixedStrokes wsX12_fixedStrokes 1 20 0 0 [.ref a_this] (gX12 g a_this a_this_z a_this_saved a_this_text a_this_line a_this_aside a_this_read a_this_fewest thrown z saves saved length text many line aside isWord entries rdA fewest h) P (gX12 g a_this a_this_z a_this_saved a_this_text a_this_line a_this_aside a_this_read a_this_fewest thrown z saves saved length text many line aside isWord entries rdA fewest h) := by
  refine Ki0.mk (cc := cX12_fixedStrokes) (nL := 3) (ty := .int) (by decide +kernel) rfl (Nat.le_of_ble_eq_true rfl) ?_
  intro p e s m below meth c A Q ls F hl V ret
  have hx := F.x
  have hb := F.b
  have hl : lv_has ls 3 [(0, .ref a_this)] := hl
  have B4 :  ∀ (n : Nat), ∀ {H : Heap} {locs : List Loc} {ls : Array Slot} (v1 : Int32) (v2 : Int32) (V : VW g A s.heap H locs (gX12 g a_this a_this_z a_this_saved a_this_text a_this_line a_this_aside a_this_read a_this_fewest thrown z saves saved length text many line aside isWord entries rdA fewest h)) (hl : lv_has ls 3 [(0, .ref a_this), (1, .int v1), (2, .int v2)]) (hw : wX12_fixedStrokes_4 z P n v1 v2), W p l e (kR 1 20 0 0) s m ([.ref a_this] : List Value).toArray below meth c H locs 0 0 Q (F0 m 4 ls []) := by
    intro n
    induction n with
    | zero => intro _ _ _ _ _ V hl hw; exact hw.elim
    | succ n ih =>
      intro H locs ls v1 v2 V hl hw
      refine lv_iload_n hx hb dX12_fixedStrokes_4 rfl (lv_at hl 2 rfl) ?_
      refine lv_aload_n hx hb dX12_fixedStrokes_5 rfl (lv_at hl 0 rfl) ?_
      refine kget F V 8 1 0 rfl rfl iX12_fixedStrokes_X12 fX12_fixedStrokes_7 (by decide) rfl rfl dX12_fixedStrokes_6 ?_
      refine lv_sipush (v := 1315) hx hb dX12_fixedStrokes_9 (by decide) ?_
      refine kiald F V 1 rfl hw.1 dX12_fixedStrokes_12 ?_
      have hw := hw.2
      refine lv_icmp_ge (tgt := 34) hx hb dX12_fixedStrokes_13 (by decide) (fun c_13 => ?_) (fun c_13 => ?_)
      · have hw := hw.1 c_13
        refine lv_iload_n hx hb dX12_fixedStrokes_34 rfl (lv_at hl 1 rfl) ?_
        exact ret _ _ _ _ _ rfl dX12_fixedStrokes_35 V hw
      · have hw := hw.2 c_13
        refine lv_iload_n hx hb dX12_fixedStrokes_16 rfl (lv_at hl 1 rfl) ?_
        refine lv_aload_n hx hb dX12_fixedStrokes_17 rfl (lv_at hl 0 rfl) ?_
        refine kget F V 8 1 0 rfl rfl iX12_fixedStrokes_X12 fX12_fixedStrokes_7 (by decide) rfl rfl dX12_fixedStrokes_18 ?_
        refine lv_iload_n hx hb dX12_fixedStrokes_21 rfl (lv_at hl 2 rfl) ?_
        refine kSi0n (rest := [.ref a_this_z, .int v1]) F hl V (kX12_itemAt l g v2 _ hw) gX12_fixedStrokes_X12_itemAt rfl 1 rfl hdX12_itemAt ⟨Nat.le_of_ble_eq_true rfl, Nat.le_of_ble_eq_true rfl⟩ ⟨Nat.le_of_ble_eq_true rfl, Nat.le_of_ble_eq_true rfl⟩ (Nat.le_of_ble_eq_true rfl) rfl dX12_fixedStrokes_22 (fun r_22 H locs hw V => ?_)
        refine kiald F V 1 rfl hw.1 dX12_fixedStrokes_25 ?_
        have hw := hw.2
        refine lv_iadd hx hb dX12_fixedStrokes_26 ?_
        refine lv_topi (fun v1_27 ev1_27 => ?_)
        have hw := hw v1_27 ev1_27
        refine lv_istore_n (lv' := [(1, .int v1_27), (0, .ref a_this), (2, .int v2)]) hx hb dX12_fixedStrokes_27 rfl hl (by decide) rfl (fun ls hl => ?_)
        refine lv_iinc (v := v2 + 1) (lv' := [(2, .int (v2 + 1)), (1, .int v1_27), (0, .ref a_this)]) hx hb dX12_fixedStrokes_28 hl (k := 2) rfl rfl (by decide) rfl (fun ls hl => ?_)
        refine lv_goto (tgt := 4) hx hb dX12_fixedStrokes_31 (by decide) ?_
        exact ih v1_27 (v2 + 1) V (lv_sub hl [2, 1, 0] rfl) hw
  refine lv_iconst (v := 0) hx hb dX12_fixedStrokes_0 (by decide) ?_
  refine lv_istore_n (lv' := [(1, .int 0), (0, .ref a_this)]) hx hb dX12_fixedStrokes_1 rfl hl (by decide) rfl (fun ls hl => ?_)
  refine lv_iconst (v := 0) hx hb dX12_fixedStrokes_2 (by decide) ?_
  refine lv_istore_n (lv' := [(2, .int 0), (1, .int 0), (0, .ref a_this)]) hx hb dX12_fixedStrokes_3 rfl hl (by decide) rfl (fun ls hl => ?_)
  obtain ⟨n_4, hw⟩ := hw
  exact B4  n_4 0 0 V (lv_sub hl [2, 1, 0] rfl) hw
theorem hdX12_openStrokes : yX12_openStrokes.cls = RX12 ∧ yX12_openStrokes.cls ≠ "java/lang/invoke/MethodHandle" ∧ yX12_openStrokes.cls ≠ "java/lang/invoke/VarHandle" ∧ (parseMethodDescriptor yX12_openStrokes.desc).map (fun d => d.parameters.length) = some 0 := by decide +kernel
theorem fX12_openStrokes_7 : Cond.fieldLink RX12 7 RX12 "z" "[I" ∈ wsX12_openStrokes := by decide +kernel
theorem iX12_openStrokes_X12 : ∀ w ∈ u_ws RX12 TX12 14, w ∈ wsX12_openStrokes := by decide +kernel
def wX12_openStrokes (z : Nat → Int32) (P : Int32 → Prop) : Prop := vp_in 337 1317 ∧ wX12_fixedStrokes z (fun r_9 => P ((z (337 : Int32).toNatClampNeg) - r_9))
set_option maxHeartbeats 4000000 in
set_option maxRecDepth 100000 in
theorem kX12_openStrokes (l : Launch) (g : kT) (a_this : Nat) (a_this_z : Nat) (a_this_saved : Nat) (a_this_text : Nat) (a_this_line : Nat) (a_this_aside : Nat) (a_this_read : Nat) (a_this_fewest : Nat) (thrown : Int32) (z : Nat → Int32) (saves : Int32) (saved : Nat → Int32) (length : Int32) (text : Nat → Int32) (many : Int32) (line : Nat → Int32) (aside : Nat → Int32) (isWord : Int32) (entries : Int32) (rdA : Nat → Int32) (fewest : Nat → Int32) (h : Int64) (P : Int32 → Prop) (hw : wX12_openStrokes z P) : Ki0 l g yX12_openStrokes wsX12_openStrokes 2 42 0 0 [.ref a_this] (gX12 g a_this a_this_z a_this_saved a_this_text a_this_line a_this_aside a_this_read a_this_fewest thrown z saves saved length text many line aside isWord entries rdA fewest h) P (gX12 g a_this a_this_z a_this_saved a_this_text a_this_line a_this_aside a_this_read a_this_fewest thrown z saves saved length text many line aside isWord entries rdA fewest h) := by
  refine Ki0.mk (cc := cX12_openStrokes) (nL := 1) (ty := .int) (by decide +kernel) rfl (Nat.le_of_ble_eq_true rfl) ?_
  intro p e s m below meth c A Q ls F hl V ret
  have hx := F.x
  have hb := F.b
  have hl : lv_has ls 1 [(0, .ref a_this)] := hl
  refine lv_aload_n hx hb dX12_openStrokes_0 rfl (lv_at hl 0 rfl) ?_
  refine kget F V 8 1 0 rfl rfl iX12_openStrokes_X12 fX12_openStrokes_7 (by decide) rfl rfl dX12_openStrokes_1 ?_
  refine lv_sipush (v := 337) hx hb dX12_openStrokes_4 (by decide) ?_
  refine kiald F V 1 rfl hw.1 dX12_openStrokes_7 ?_
  have hw := hw.2
  refine lv_aload_n hx hb dX12_openStrokes_8 rfl (lv_at hl 0 rfl) ?_
  refine kVi0 (rest := [.int (z (337 : Int32).toNatClampNeg)]) F hl V [0, 1, 2, 3, 4, 5, 6, 7] [] [0, 1, 2, 3, 4, 5, 6, 7] (gX12 g a_this a_this_z a_this_saved a_this_text a_this_line a_this_aside a_this_read a_this_fewest thrown z saves saved length text many line aside isWord entries rdA fewest h) a_this 8 0 rfl rfl (kX12_fixedStrokes l g a_this a_this_z a_this_saved a_this_text a_this_line a_this_aside a_this_read a_this_fewest thrown z saves saved length text many line aside isWord entries rdA fewest h _ hw) gX12_openStrokes_X12_fixedStrokes rfl 0 rfl hdX12_fixedStrokes rfl rfl (fun _ => rfl) rfl rfl rfl (by decide) ⟨Nat.le_of_ble_eq_true rfl, Nat.le_of_ble_eq_true rfl⟩ ⟨Nat.le_of_ble_eq_true rfl, Nat.le_of_ble_eq_true rfl⟩ (Nat.le_of_ble_eq_true rfl) rfl dX12_openStrokes_9 (fun r_9 H locs hw V => ?_)
  refine lv_isub hx hb dX12_openStrokes_12 ?_
  exact ret _ _ _ _ _ rfl dX12_openStrokes_13 V hw
theorem hdX12_makeItem : yX12_makeItem.cls = RX12 ∧ yX12_makeItem.cls ≠ "java/lang/invoke/MethodHandle" ∧ yX12_makeItem.cls ≠ "java/lang/invoke/VarHandle" ∧ (parseMethodDescriptor yX12_makeItem.desc).map (fun d => d.parameters.length) = some 2 := by decide +kernel
theorem fX12_makeItem_7 : Cond.fieldLink RX12 7 RX12 "z" "[I" ∈ wsX12_makeItem := by decide +kernel
theorem iX12_makeItem_X12 : ∀ w ∈ u_ws RX12 TX12 14, w ∈ wsX12_makeItem := by decide +kernel
theorem fX12_makeItem_19 : Cond.fieldLink RX12 19 RX12 "line" "[I" ∈ wsX12_makeItem := by decide +kernel
def wX12_makeItem_177 (line : Nat → Int32) (p1 : Int32) (p2 : Int32) (K57 : Int32 → Int32 → (Nat → Int32) → Prop) (P : (Nat → Int32) → Prop) (v3 : Int32) (v4 : Int32) (z : Nat → Int32) : Prop := K57 v3 (v4 + 1) z
def wX12_makeItem_164 (line : Nat → Int32) (p1 : Int32) (p2 : Int32) (K57 : Int32 → Int32 → (Nat → Int32) → Prop) (P : (Nat → Int32) → Prop) (v3 : Int32) (v4 : Int32) (s1 : Int32) (s2 : Int32) (z : Nat → Int32) : Prop := vp_in s1 1317 ∧ ∀ z_164 : Nat → Int32, z_164 = upd z s1.toNatClampNeg s2 → vp_in (v3 + 2) 1317 ∧ vp_in (v3 + 2) 1317 ∧ ∀ z_176 : Nat → Int32, z_176 = upd z_164 (v3 + 2).toNatClampNeg ((z_164 (v3 + 2).toNatClampNeg) + 1) → wX12_makeItem_177 line p1 p2 K57 P v3 v4 z_176
def wX12_makeItem_113 (line : Nat → Int32) (p1 : Int32) (p2 : Int32) (K57 : Int32 → Int32 → (Nat → Int32) → Prop) (P : (Nat → Int32) → Prop) (v3 : Int32) (v4 : Int32) (s0 : Int32) (z : Nat → Int32) : Prop := (s0 = 0 → wX12_makeItem_177 line p1 p2 K57 P v3 v4 z) ∧ (¬ (s0 = 0) → vp_in (v3 + 2) 1317 ∧ (¬ p2 = (-1) → wX12_entryAt p2 (fun r_154 => vp_in ((r_154 + 6) + v4) 1317 ∧ wX12_makeItem_164 line p1 p2 K57 P v3 v4 ((v3 + 3) + (z (v3 + 2).toNatClampNeg)) (z ((r_154 + 6) + v4).toNatClampNeg) z)) ∧ (p2 = (-1) → wX12_keyLetter v4 (fun r_143 => wX12_makeItem_164 line p1 p2 K57 P v3 v4 ((v3 + 3) + (z (v3 + 2).toNatClampNeg)) r_143 z)))
def wX12_makeItem_57 (line : Nat → Int32) (p1 : Int32) (p2 : Int32) (P : (Nat → Int32) → Prop) : Nat → Int32 → Int32 → (Nat → Int32) → Prop
  | 0, _, _, _ => False
  | n + 1, v3, v4, z => (12 ≤ v4 → vp_in 399 1317 ∧ vp_in 399 1317 ∧ ∀ z_194 : Nat → Int32, z_194 = upd z (399 : Int32).toNatClampNeg ((z (399 : Int32).toNatClampNeg) + 1) → P z_194) ∧ (¬ (12 ≤ v4) → (¬ p2 = (-1) → wX12_entryAt p2 (fun r_99 => vp_in (r_99 + 5) 1317 ∧ ((z (r_99 + 5).toNatClampNeg) ≤ v4 → wX12_makeItem_113 line p1 p2 (wX12_makeItem_57 line p1 p2 P n) P v3 v4 0 z) ∧ (¬ ((z (r_99 + 5).toNatClampNeg) ≤ v4) → wX12_makeItem_113 line p1 p2 (wX12_makeItem_57 line p1 p2 P n) P v3 v4 1 z))) ∧ (p2 = (-1) → vp_in p1 240 ∧ (¬ (((line p1.toNatClampNeg) >>> (v4 &&& 31)) &&& 1) = 1 → wX12_makeItem_113 line p1 p2 (wX12_makeItem_57 line p1 p2 P n) P v3 v4 0 z) ∧ ((((line p1.toNatClampNeg) >>> (v4 &&& 31)) &&& 1) = 1 → wX12_makeItem_113 line p1 p2 (wX12_makeItem_57 line p1 p2 P n) P v3 v4 1 z)))
def wX12_makeItem_35 (line : Nat → Int32) (p1 : Int32) (p2 : Int32) (P : (Nat → Int32) → Prop) (v3 : Int32) (s1 : Int32) (s2 : Int32) (z : Nat → Int32) : Prop := vp_in s1 1317 ∧ ∀ z_35 : Nat → Int32, z_35 = upd z s1.toNatClampNeg s2 → vp_in (v3 + 1) 1317 ∧ ∀ z_44 : Nat → Int32, z_44 = upd z_35 (v3 + 1).toNatClampNeg p2 → vp_in (v3 + 2) 1317 ∧ ∀ z_53 : Nat → Int32, z_53 = upd z_44 (v3 + 2).toNatClampNeg 0 → ∃ n_57, wX12_makeItem_57 line p1 p2 P n_57 v3 0 z_53
def wX12_makeItem (line : Nat → Int32) (p1 : Int32) (p2 : Int32) (P : (Nat → Int32) → Prop) (z : Nat → Int32) : Prop := vp_in 399 1317 ∧ wX12_itemAt (z (399 : Int32).toNatClampNeg) (fun r_8 => (¬ p2 = (-1) → wX12_entryAt p2 (fun r_31 => vp_in r_31 1317 ∧ wX12_makeItem_35 line p1 p2 P r_8 r_8 (z r_31.toNatClampNeg) z)) ∧ (p2 = (-1) → wX12_makeItem_35 line p1 p2 P r_8 r_8 1 z))
set_option maxHeartbeats 4000000 in
set_option maxRecDepth 100000 in
theorem kX12_makeItem (l : Launch) (g : kT) (a_this : Nat) (a_this_z : Nat) (a_this_saved : Nat) (a_this_text : Nat) (a_this_line : Nat) (a_this_aside : Nat) (a_this_read : Nat) (a_this_fewest : Nat) (thrown : Int32) (z : Nat → Int32) (saves : Int32) (saved : Nat → Int32) (length : Int32) (text : Nat → Int32) (many : Int32) (line : Nat → Int32) (aside : Nat → Int32) (isWord : Int32) (entries : Int32) (rdA : Nat → Int32) (fewest : Nat → Int32) (h : Int64) (p1 : Int32) (p2 : Int32) (P : (Nat → Int32) → Prop) (hw : wX12_makeItem line p1 p2 P z) : Kv1 l g yX12_makeItem wsX12_makeItem 1 20 0 0 [.ref a_this, .int p1, .int p2] (gX12 g a_this a_this_z a_this_saved a_this_text a_this_line a_this_aside a_this_read a_this_fewest thrown z saves saved length text many line aside isWord entries rdA fewest h) P (fun z => (gX12 g a_this a_this_z a_this_saved a_this_text a_this_line a_this_aside a_this_read a_this_fewest thrown z saves saved length text many line aside isWord entries rdA fewest h)) := by
  refine Kv1.mk (cc := cX12_makeItem) (nL := 6) (by decide +kernel) rfl (Nat.le_of_ble_eq_true rfl) ?_
  intro p e s m below meth c A Q ls F hl V ret _
  have hx := F.x
  have hb := F.b
  have hl : lv_has ls 6 [(0, .ref a_this), (1, .int p1), (2, .int p2)] := hl
  have B177 : ∀ (K57 : Int32 → Int32 → (Nat → Int32) → Prop) (k57 : ∀ {H : Heap} {locs : List Loc} {ls : Array Slot} (v3 : Int32) (v4 : Int32) (z : Nat → Int32), VW g A s.heap H locs (gX12 g a_this a_this_z a_this_saved a_this_text a_this_line a_this_aside a_this_read a_this_fewest thrown z saves saved length text many line aside isWord entries rdA fewest h) → lv_has ls 6 [(0, .ref a_this), (1, .int p1), (2, .int p2), (3, .int v3), (4, .int v4)] → K57 v3 v4 z → W p l e (kR 1 20 0 0) s m ([.ref a_this, .int p1, .int p2] : List Value).toArray below meth c H locs 0 0 Q (F0 m 57 ls [])), ∀ {H : Heap} {locs : List Loc} {ls : Array Slot} (v3 : Int32) (v4 : Int32) (z : Nat → Int32) (V : VW g A s.heap H locs (gX12 g a_this a_this_z a_this_saved a_this_text a_this_line a_this_aside a_this_read a_this_fewest thrown z saves saved length text many line aside isWord entries rdA fewest h)) (hl : lv_has ls 6 [(0, .ref a_this), (1, .int p1), (2, .int p2), (3, .int v3), (4, .int v4)]) (hw : wX12_makeItem_177 line p1 p2 K57 P v3 v4 z), W p l e (kR 1 20 0 0) s m ([.ref a_this, .int p1, .int p2] : List Value).toArray below meth c H locs 0 0 Q (F0 m 177 ls []) := by
    intro K57 k57 H locs ls v3 v4 z V hl hw
    refine lv_iinc (v := v4 + 1) (lv' := [(4, .int (v4 + 1)), (0, .ref a_this), (1, .int p1), (2, .int p2), (3, .int v3)]) hx hb dX12_makeItem_177 hl (k := 4) rfl rfl (by decide) rfl (fun ls hl => ?_)
    refine lv_goto (tgt := 57) hx hb dX12_makeItem_180 (by decide) ?_
    exact k57 v3 (v4 + 1) z V (lv_sub hl [1, 2, 3, 4, 0] rfl) hw
  have B164 : ∀ (K57 : Int32 → Int32 → (Nat → Int32) → Prop) (k57 : ∀ {H : Heap} {locs : List Loc} {ls : Array Slot} (v3 : Int32) (v4 : Int32) (z : Nat → Int32), VW g A s.heap H locs (gX12 g a_this a_this_z a_this_saved a_this_text a_this_line a_this_aside a_this_read a_this_fewest thrown z saves saved length text many line aside isWord entries rdA fewest h) → lv_has ls 6 [(0, .ref a_this), (1, .int p1), (2, .int p2), (3, .int v3), (4, .int v4)] → K57 v3 v4 z → W p l e (kR 1 20 0 0) s m ([.ref a_this, .int p1, .int p2] : List Value).toArray below meth c H locs 0 0 Q (F0 m 57 ls [])), ∀ {H : Heap} {locs : List Loc} {ls : Array Slot} (v3 : Int32) (v4 : Int32) (s1 : Int32) (s2 : Int32) (z : Nat → Int32) (V : VW g A s.heap H locs (gX12 g a_this a_this_z a_this_saved a_this_text a_this_line a_this_aside a_this_read a_this_fewest thrown z saves saved length text many line aside isWord entries rdA fewest h)) (hl : lv_has ls 6 [(0, .ref a_this), (1, .int p1), (2, .int p2), (3, .int v3), (4, .int v4)]) (hw : wX12_makeItem_164 line p1 p2 K57 P v3 v4 s1 s2 z), W p l e (kR 1 20 0 0) s m ([.ref a_this, .int p1, .int p2] : List Value).toArray below meth c H locs 0 0 Q (F0 m 164 ls [.int s2, .int s1, .ref a_this_z]) := by
    intro K57 k57 H locs ls v3 v4 s1 s2 z V hl hw
    refine kiast F V 1 rfl hw.1 dX12_makeItem_164 (fun z_164 ez_164 H locs V => ?_)
    have hw := hw.2 z_164 ez_164
    have V : VW g A s.heap H locs (gX12 g a_this a_this_z a_this_saved a_this_text a_this_line a_this_aside a_this_read a_this_fewest thrown z_164 saves saved length text many line aside isWord entries rdA fewest h) := V
    refine lv_aload_n hx hb dX12_makeItem_165 rfl (lv_at hl 0 rfl) ?_
    refine kget F V 8 1 0 rfl rfl iX12_makeItem_X12 fX12_makeItem_7 (by decide) rfl rfl dX12_makeItem_166 ?_
    refine lv_iload_n hx hb dX12_makeItem_169 rfl (lv_at hl 3 rfl) ?_
    refine lv_iconst (v := 2) hx hb dX12_makeItem_170 (by decide) ?_
    refine lv_iadd hx hb dX12_makeItem_171 ?_
    refine lv_dup2_11 hx hb dX12_makeItem_172 rfl rfl ?_
    refine kiald F V 1 rfl hw.1 dX12_makeItem_173 ?_
    have hw := hw.2
    refine lv_iconst (v := 1) hx hb dX12_makeItem_174 (by decide) ?_
    refine lv_iadd hx hb dX12_makeItem_175 ?_
    refine kiast F V 1 rfl hw.1 dX12_makeItem_176 (fun z_176 ez_176 H locs V => ?_)
    have hw := hw.2 z_176 ez_176
    have V : VW g A s.heap H locs (gX12 g a_this a_this_z a_this_saved a_this_text a_this_line a_this_aside a_this_read a_this_fewest thrown z_176 saves saved length text many line aside isWord entries rdA fewest h) := V
    exact B177 K57 k57 v3 v4 z_176 V hl hw
  have B113 : ∀ (K57 : Int32 → Int32 → (Nat → Int32) → Prop) (k57 : ∀ {H : Heap} {locs : List Loc} {ls : Array Slot} (v3 : Int32) (v4 : Int32) (z : Nat → Int32), VW g A s.heap H locs (gX12 g a_this a_this_z a_this_saved a_this_text a_this_line a_this_aside a_this_read a_this_fewest thrown z saves saved length text many line aside isWord entries rdA fewest h) → lv_has ls 6 [(0, .ref a_this), (1, .int p1), (2, .int p2), (3, .int v3), (4, .int v4)] → K57 v3 v4 z → W p l e (kR 1 20 0 0) s m ([.ref a_this, .int p1, .int p2] : List Value).toArray below meth c H locs 0 0 Q (F0 m 57 ls [])), ∀ {H : Heap} {locs : List Loc} {ls : Array Slot} (v3 : Int32) (v4 : Int32) (s0 : Int32) (z : Nat → Int32) (V : VW g A s.heap H locs (gX12 g a_this a_this_z a_this_saved a_this_text a_this_line a_this_aside a_this_read a_this_fewest thrown z saves saved length text many line aside isWord entries rdA fewest h)) (hl : lv_has ls 6 [(0, .ref a_this), (1, .int p1), (2, .int p2), (3, .int v3), (4, .int v4)]) (hw : wX12_makeItem_113 line p1 p2 K57 P v3 v4 s0 z), W p l e (kR 1 20 0 0) s m ([.ref a_this, .int p1, .int p2] : List Value).toArray below meth c H locs 0 0 Q (F0 m 113 ls [.int s0]) := by
    intro K57 k57 H locs ls v3 v4 s0 z V hl hw
    refine lv_istore (lv' := [(5, .int s0), (0, .ref a_this), (1, .int p1), (2, .int p2), (3, .int v3), (4, .int v4)]) hx hb dX12_makeItem_113 hl (by decide) rfl (fun ls hl => ?_)
    refine lv_iload hx hb dX12_makeItem_115 (lv_at hl 0 rfl) ?_
    refine lv_if_eq (tgt := 177) hx hb dX12_makeItem_117 (by decide) (fun c_117 => ?_) (fun c_117 => ?_)
    · have hw := hw.1 c_117
      exact B177 K57 k57 v3 v4 z V (lv_sub hl [1, 2, 3, 4, 5] rfl) hw
    · have hw := hw.2 c_117
      refine lv_aload_n hx hb dX12_makeItem_120 rfl (lv_at hl 1 rfl) ?_
      refine kget F V 8 1 0 rfl rfl iX12_makeItem_X12 fX12_makeItem_7 (by decide) rfl rfl dX12_makeItem_121 ?_
      refine lv_iload_n hx hb dX12_makeItem_124 rfl (lv_at hl 4 rfl) ?_
      refine lv_iconst (v := 3) hx hb dX12_makeItem_125 (by decide) ?_
      refine lv_iadd hx hb dX12_makeItem_126 ?_
      refine lv_aload_n hx hb dX12_makeItem_127 rfl (lv_at hl 1 rfl) ?_
      refine kget F V 8 1 0 rfl rfl iX12_makeItem_X12 fX12_makeItem_7 (by decide) rfl rfl dX12_makeItem_128 ?_
      refine lv_iload_n hx hb dX12_makeItem_131 rfl (lv_at hl 4 rfl) ?_
      refine lv_iconst (v := 2) hx hb dX12_makeItem_132 (by decide) ?_
      refine lv_iadd hx hb dX12_makeItem_133 ?_
      refine kiald F V 1 rfl hw.1 dX12_makeItem_134 ?_
      have hw := hw.2
      refine lv_iadd hx hb dX12_makeItem_135 ?_
      refine lv_iload_n hx hb dX12_makeItem_136 rfl (lv_at hl 3 rfl) ?_
      refine lv_iconst (v := (-1)) hx hb dX12_makeItem_137 (by decide) ?_
      refine lv_icmp_ne (tgt := 149) hx hb dX12_makeItem_138 (by decide) (fun c_138 => ?_) (fun c_138 => ?_)
      · have hw := hw.1 c_138
        refine lv_aload_n hx hb dX12_makeItem_149 rfl (lv_at hl 1 rfl) ?_
        refine kget F V 8 1 0 rfl rfl iX12_makeItem_X12 fX12_makeItem_7 (by decide) rfl rfl dX12_makeItem_150 ?_
        refine lv_iload_n hx hb dX12_makeItem_153 rfl (lv_at hl 3 rfl) ?_
        refine kSi0n (rest := [.ref a_this_z, .int ((v3 + 3) + (z (v3 + 2).toNatClampNeg)), .ref a_this_z]) F hl V (kX12_entryAt l g p2 _ hw) gX12_makeItem_X12_entryAt rfl 1 rfl hdX12_entryAt ⟨Nat.le_of_ble_eq_true rfl, Nat.le_of_ble_eq_true rfl⟩ ⟨Nat.le_of_ble_eq_true rfl, Nat.le_of_ble_eq_true rfl⟩ (Nat.le_of_ble_eq_true rfl) rfl dX12_makeItem_154 (fun r_154 H locs hw V => ?_)
        refine lv_bipush (v := 6) hx hb dX12_makeItem_157 (by decide) ?_
        refine lv_iadd hx hb dX12_makeItem_159 ?_
        refine lv_iload hx hb dX12_makeItem_160 (lv_at hl 5 rfl) ?_
        refine lv_iadd hx hb dX12_makeItem_162 ?_
        refine kiald F V 1 rfl hw.1 dX12_makeItem_163 ?_
        have hw := hw.2
        exact B164 K57 k57 v3 v4 ((v3 + 3) + (z (v3 + 2).toNatClampNeg)) (z ((r_154 + 6) + v4).toNatClampNeg) z V (lv_sub hl [1, 2, 3, 4, 5] rfl) hw
      · have hw := hw.2 c_138
        refine lv_iload hx hb dX12_makeItem_141 (lv_at hl 5 rfl) ?_
        refine kSi0n (rest := [.int ((v3 + 3) + (z (v3 + 2).toNatClampNeg)), .ref a_this_z]) F hl V (kX12_keyLetter l g v4 _ hw) gX12_makeItem_X12_keyLetter rfl 1 rfl hdX12_keyLetter ⟨Nat.le_of_ble_eq_true rfl, Nat.le_of_ble_eq_true rfl⟩ ⟨Nat.le_of_ble_eq_true rfl, Nat.le_of_ble_eq_true rfl⟩ (Nat.le_of_ble_eq_true rfl) rfl dX12_makeItem_143 (fun r_143 H locs hw V => ?_)
        refine lv_goto (tgt := 164) hx hb dX12_makeItem_146 (by decide) ?_
        exact B164 K57 k57 v3 v4 ((v3 + 3) + (z (v3 + 2).toNatClampNeg)) r_143 z V (lv_sub hl [1, 2, 3, 4, 5] rfl) hw
  have B57 :  ∀ (n : Nat), ∀ {H : Heap} {locs : List Loc} {ls : Array Slot} (v3 : Int32) (v4 : Int32) (z : Nat → Int32) (V : VW g A s.heap H locs (gX12 g a_this a_this_z a_this_saved a_this_text a_this_line a_this_aside a_this_read a_this_fewest thrown z saves saved length text many line aside isWord entries rdA fewest h)) (hl : lv_has ls 6 [(0, .ref a_this), (1, .int p1), (2, .int p2), (3, .int v3), (4, .int v4)]) (hw : wX12_makeItem_57 line p1 p2 P n v3 v4 z), W p l e (kR 1 20 0 0) s m ([.ref a_this, .int p1, .int p2] : List Value).toArray below meth c H locs 0 0 Q (F0 m 57 ls []) := by
    intro n
    induction n with
    | zero => intro _ _ _ _ _ _ V hl hw; exact hw.elim
    | succ n ih =>
      intro H locs ls v3 v4 z V hl hw
      refine lv_iload hx hb dX12_makeItem_57 (lv_at hl 4 rfl) ?_
      refine lv_bipush (v := 12) hx hb dX12_makeItem_59 (by decide) ?_
      refine lv_icmp_ge (tgt := 183) hx hb dX12_makeItem_61 (by decide) (fun c_61 => ?_) (fun c_61 => ?_)
      · have hw := hw.1 c_61
        refine lv_aload_n hx hb dX12_makeItem_183 rfl (lv_at hl 0 rfl) ?_
        refine kget F V 8 1 0 rfl rfl iX12_makeItem_X12 fX12_makeItem_7 (by decide) rfl rfl dX12_makeItem_184 ?_
        refine lv_sipush (v := 399) hx hb dX12_makeItem_187 (by decide) ?_
        refine lv_dup2_11 hx hb dX12_makeItem_190 rfl rfl ?_
        refine kiald F V 1 rfl hw.1 dX12_makeItem_191 ?_
        have hw := hw.2
        refine lv_iconst (v := 1) hx hb dX12_makeItem_192 (by decide) ?_
        refine lv_iadd hx hb dX12_makeItem_193 ?_
        refine kiast F V 1 rfl hw.1 dX12_makeItem_194 (fun z_194 ez_194 H locs V => ?_)
        have hw := hw.2 z_194 ez_194
        have V : VW g A s.heap H locs (gX12 g a_this a_this_z a_this_saved a_this_text a_this_line a_this_aside a_this_read a_this_fewest thrown z_194 saves saved length text many line aside isWord entries rdA fewest h) := V
        exact ret _ _ _ _ _ dX12_makeItem_195 V hw
      · have hw := hw.2 c_61
        refine lv_iload_n hx hb dX12_makeItem_64 rfl (lv_at hl 2 rfl) ?_
        refine lv_iconst (v := (-1)) hx hb dX12_makeItem_65 (by decide) ?_
        refine lv_icmp_ne (tgt := 92) hx hb dX12_makeItem_66 (by decide) (fun c_66 => ?_) (fun c_66 => ?_)
        · have hw := hw.1 c_66
          refine lv_iload hx hb dX12_makeItem_92 (lv_at hl 4 rfl) ?_
          refine lv_aload_n hx hb dX12_makeItem_94 rfl (lv_at hl 0 rfl) ?_
          refine kget F V 8 1 0 rfl rfl iX12_makeItem_X12 fX12_makeItem_7 (by decide) rfl rfl dX12_makeItem_95 ?_
          refine lv_iload_n hx hb dX12_makeItem_98 rfl (lv_at hl 2 rfl) ?_
          refine kSi0n (rest := [.ref a_this_z, .int v4]) F hl V (kX12_entryAt l g p2 _ hw) gX12_makeItem_X12_entryAt rfl 1 rfl hdX12_entryAt ⟨Nat.le_of_ble_eq_true rfl, Nat.le_of_ble_eq_true rfl⟩ ⟨Nat.le_of_ble_eq_true rfl, Nat.le_of_ble_eq_true rfl⟩ (Nat.le_of_ble_eq_true rfl) rfl dX12_makeItem_99 (fun r_99 H locs hw V => ?_)
          refine lv_iconst (v := 5) hx hb dX12_makeItem_102 (by decide) ?_
          refine lv_iadd hx hb dX12_makeItem_103 ?_
          refine kiald F V 1 rfl hw.1 dX12_makeItem_104 ?_
          have hw := hw.2
          refine lv_icmp_ge (tgt := 112) hx hb dX12_makeItem_105 (by decide) (fun c_105 => ?_) (fun c_105 => ?_)
          · have hw := hw.1 c_105
            refine lv_iconst (v := 0) hx hb dX12_makeItem_112 (by decide) ?_
            exact B113 (wX12_makeItem_57 line p1 p2 P n) ih v3 v4 0 z V hl hw
          · have hw := hw.2 c_105
            refine lv_iconst (v := 1) hx hb dX12_makeItem_108 (by decide) ?_
            refine lv_goto (tgt := 113) hx hb dX12_makeItem_109 (by decide) ?_
            exact B113 (wX12_makeItem_57 line p1 p2 P n) ih v3 v4 1 z V hl hw
        · have hw := hw.2 c_66
          refine lv_aload_n hx hb dX12_makeItem_69 rfl (lv_at hl 0 rfl) ?_
          refine kget F V 8 7 0 rfl rfl iX12_makeItem_X12 fX12_makeItem_19 (by decide) rfl rfl dX12_makeItem_70 ?_
          refine lv_iload_n hx hb dX12_makeItem_73 rfl (lv_at hl 1 rfl) ?_
          refine kiald F V 4 rfl hw.1 dX12_makeItem_74 ?_
          have hw := hw.2
          refine lv_iload hx hb dX12_makeItem_75 (lv_at hl 4 rfl) ?_
          refine lv_ishr hx hb dX12_makeItem_77 ?_
          refine lv_iconst (v := 1) hx hb dX12_makeItem_78 (by decide) ?_
          refine lv_iand hx hb dX12_makeItem_79 ?_
          refine lv_iconst (v := 1) hx hb dX12_makeItem_80 (by decide) ?_
          refine lv_icmp_ne (tgt := 88) hx hb dX12_makeItem_81 (by decide) (fun c_81 => ?_) (fun c_81 => ?_)
          · have hw := hw.1 c_81
            refine lv_iconst (v := 0) hx hb dX12_makeItem_88 (by decide) ?_
            refine lv_goto (tgt := 113) hx hb dX12_makeItem_89 (by decide) ?_
            exact B113 (wX12_makeItem_57 line p1 p2 P n) ih v3 v4 0 z V hl hw
          · have hw := hw.2 c_81
            refine lv_iconst (v := 1) hx hb dX12_makeItem_84 (by decide) ?_
            refine lv_goto (tgt := 113) hx hb dX12_makeItem_85 (by decide) ?_
            exact B113 (wX12_makeItem_57 line p1 p2 P n) ih v3 v4 1 z V hl hw
  have B35 :  ∀ {H : Heap} {locs : List Loc} {ls : Array Slot} (v3 : Int32) (s1 : Int32) (s2 : Int32) (z : Nat → Int32) (V : VW g A s.heap H locs (gX12 g a_this a_this_z a_this_saved a_this_text a_this_line a_this_aside a_this_read a_this_fewest thrown z saves saved length text many line aside isWord entries rdA fewest h)) (hl : lv_has ls 6 [(0, .ref a_this), (1, .int p1), (2, .int p2), (3, .int v3)]) (hw : wX12_makeItem_35 line p1 p2 P v3 s1 s2 z), W p l e (kR 1 20 0 0) s m ([.ref a_this, .int p1, .int p2] : List Value).toArray below meth c H locs 0 0 Q (F0 m 35 ls [.int s2, .int s1, .ref a_this_z]) := by
    intro  H locs ls v3 s1 s2 z V hl hw
    refine kiast F V 1 rfl hw.1 dX12_makeItem_35 (fun z_35 ez_35 H locs V => ?_)
    have hw := hw.2 z_35 ez_35
    have V : VW g A s.heap H locs (gX12 g a_this a_this_z a_this_saved a_this_text a_this_line a_this_aside a_this_read a_this_fewest thrown z_35 saves saved length text many line aside isWord entries rdA fewest h) := V
    refine lv_aload_n hx hb dX12_makeItem_36 rfl (lv_at hl 0 rfl) ?_
    refine kget F V 8 1 0 rfl rfl iX12_makeItem_X12 fX12_makeItem_7 (by decide) rfl rfl dX12_makeItem_37 ?_
    refine lv_iload_n hx hb dX12_makeItem_40 rfl (lv_at hl 3 rfl) ?_
    refine lv_iconst (v := 1) hx hb dX12_makeItem_41 (by decide) ?_
    refine lv_iadd hx hb dX12_makeItem_42 ?_
    refine lv_iload_n hx hb dX12_makeItem_43 rfl (lv_at hl 2 rfl) ?_
    refine kiast F V 1 rfl hw.1 dX12_makeItem_44 (fun z_44 ez_44 H locs V => ?_)
    have hw := hw.2 z_44 ez_44
    have V : VW g A s.heap H locs (gX12 g a_this a_this_z a_this_saved a_this_text a_this_line a_this_aside a_this_read a_this_fewest thrown z_44 saves saved length text many line aside isWord entries rdA fewest h) := V
    refine lv_aload_n hx hb dX12_makeItem_45 rfl (lv_at hl 0 rfl) ?_
    refine kget F V 8 1 0 rfl rfl iX12_makeItem_X12 fX12_makeItem_7 (by decide) rfl rfl dX12_makeItem_46 ?_
    refine lv_iload_n hx hb dX12_makeItem_49 rfl (lv_at hl 3 rfl) ?_
    refine lv_iconst (v := 2) hx hb dX12_makeItem_50 (by decide) ?_
    refine lv_iadd hx hb dX12_makeItem_51 ?_
    refine lv_iconst (v := 0) hx hb dX12_makeItem_52 (by decide) ?_
    refine kiast F V 1 rfl hw.1 dX12_makeItem_53 (fun z_53 ez_53 H locs V => ?_)
    have hw := hw.2 z_53 ez_53
    have V : VW g A s.heap H locs (gX12 g a_this a_this_z a_this_saved a_this_text a_this_line a_this_aside a_this_read a_this_fewest thrown z_53 saves saved length text many line aside isWord entries rdA fewest h) := V
    refine lv_iconst (v := 0) hx hb dX12_makeItem_54 (by decide) ?_
    refine lv_istore (lv' := [(4, .int 0), (0, .ref a_this), (1, .int p1), (2, .int p2), (3, .int v3)]) hx hb dX12_makeItem_55 hl (by decide) rfl (fun ls hl => ?_)
    obtain ⟨n_57, hw⟩ := hw
    exact B57  n_57 v3 0 z_53 V (lv_sub hl [1, 2, 3, 4, 0] rfl) hw
  refine lv_aload_n hx hb dX12_makeItem_0 rfl (lv_at hl 0 rfl) ?_
  refine kget F V 8 1 0 rfl rfl iX12_makeItem_X12 fX12_makeItem_7 (by decide) rfl rfl dX12_makeItem_1 ?_
  refine lv_sipush (v := 399) hx hb dX12_makeItem_4 (by decide) ?_
  refine kiald F V 1 rfl hw.1 dX12_makeItem_7 ?_
  have hw := hw.2
  refine kSi0n (rest := []) F hl V (kX12_itemAt l g (z (399 : Int32).toNatClampNeg) _ hw) gX12_makeItem_X12_itemAt rfl 1 rfl hdX12_itemAt ⟨Nat.le_of_ble_eq_true rfl, Nat.le_of_ble_eq_true rfl⟩ ⟨Nat.le_of_ble_eq_true rfl, Nat.le_of_ble_eq_true rfl⟩ (Nat.le_of_ble_eq_true rfl) rfl dX12_makeItem_8 (fun r_8 H locs hw V => ?_)
  refine lv_istore_n (lv' := [(3, .int r_8), (0, .ref a_this), (1, .int p1), (2, .int p2)]) hx hb dX12_makeItem_11 rfl hl (by decide) rfl (fun ls hl => ?_)
  refine lv_aload_n hx hb dX12_makeItem_12 rfl (lv_at hl 1 rfl) ?_
  refine kget F V 8 1 0 rfl rfl iX12_makeItem_X12 fX12_makeItem_7 (by decide) rfl rfl dX12_makeItem_13 ?_
  refine lv_iload_n hx hb dX12_makeItem_16 rfl (lv_at hl 0 rfl) ?_
  refine lv_iload_n hx hb dX12_makeItem_17 rfl (lv_at hl 3 rfl) ?_
  refine lv_iconst (v := (-1)) hx hb dX12_makeItem_18 (by decide) ?_
  refine lv_icmp_ne (tgt := 26) hx hb dX12_makeItem_19 (by decide) (fun c_19 => ?_) (fun c_19 => ?_)
  · have hw := hw.1 c_19
    refine lv_aload_n hx hb dX12_makeItem_26 rfl (lv_at hl 1 rfl) ?_
    refine kget F V 8 1 0 rfl rfl iX12_makeItem_X12 fX12_makeItem_7 (by decide) rfl rfl dX12_makeItem_27 ?_
    refine lv_iload_n hx hb dX12_makeItem_30 rfl (lv_at hl 3 rfl) ?_
    refine kSi0n (rest := [.ref a_this_z, .int r_8, .ref a_this_z]) F hl V (kX12_entryAt l g p2 _ hw) gX12_makeItem_X12_entryAt rfl 1 rfl hdX12_entryAt ⟨Nat.le_of_ble_eq_true rfl, Nat.le_of_ble_eq_true rfl⟩ ⟨Nat.le_of_ble_eq_true rfl, Nat.le_of_ble_eq_true rfl⟩ (Nat.le_of_ble_eq_true rfl) rfl dX12_makeItem_31 (fun r_31 H locs hw V => ?_)
    refine kiald F V 1 rfl hw.1 dX12_makeItem_34 ?_
    have hw := hw.2
    exact B35  r_8 r_8 (z r_31.toNatClampNeg) z V (lv_sub hl [1, 2, 3, 0] rfl) hw
  · have hw := hw.2 c_19
    refine lv_iconst (v := 1) hx hb dX12_makeItem_22 (by decide) ?_
    refine lv_goto (tgt := 35) hx hb dX12_makeItem_23 (by decide) ?_
    exact B35  r_8 r_8 1 z V (lv_sub hl [1, 2, 3, 0] rfl) hw
theorem hdX12_fixOne : yX12_fixOne.cls = RX12 ∧ yX12_fixOne.cls ≠ "java/lang/invoke/MethodHandle" ∧ yX12_fixOne.cls ≠ "java/lang/invoke/VarHandle" ∧ (parseMethodDescriptor yX12_fixOne.desc).map (fun d => d.parameters.length) = some 0 := by decide +kernel
theorem fX12_fixOne_7 : Cond.fieldLink RX12 7 RX12 "z" "[I" ∈ wsX12_fixOne := by decide +kernel
theorem iX12_fixOne_X12 : ∀ w ∈ u_ws RX12 TX12 14, w ∈ wsX12_fixOne := by decide +kernel
def wX12_fixOne (P : (Nat → Int32) → Prop) (z : Nat → Int32) : Prop := vp_in 1315 1317 ∧ wX12_itemAt (z (1315 : Int32).toNatClampNeg) (fun r_12 => vp_in (r_12 + 1) 1317 ∧ ∀ z_18 : Nat → Int32, z_18 = upd z (r_12 + 1).toNatClampNeg (-1) → vp_in 1315 1317 ∧ vp_in 1315 1317 ∧ ∀ z_30 : Nat → Int32, z_30 = upd z_18 (1315 : Int32).toNatClampNeg ((z_18 (1315 : Int32).toNatClampNeg) + 1) → P z_30)
set_option maxHeartbeats 4000000 in
set_option maxRecDepth 100000 in
theorem kX12_fixOne (l : Launch) (g : kT) (a_this : Nat) (a_this_z : Nat) (a_this_saved : Nat) (a_this_text : Nat) (a_this_line : Nat) (a_this_aside : Nat) (a_this_read : Nat) (a_this_fewest : Nat) (thrown : Int32) (z : Nat → Int32) (saves : Int32) (saved : Nat → Int32) (length : Int32) (text : Nat → Int32) (many : Int32) (line : Nat → Int32) (aside : Nat → Int32) (isWord : Int32) (entries : Int32) (rdA : Nat → Int32) (fewest : Nat → Int32) (h : Int64) (P : (Nat → Int32) → Prop) (hw : wX12_fixOne P z) : Kv1 l g yX12_fixOne wsX12_fixOne 1 20 0 0 [.ref a_this] (gX12 g a_this a_this_z a_this_saved a_this_text a_this_line a_this_aside a_this_read a_this_fewest thrown z saves saved length text many line aside isWord entries rdA fewest h) P (fun z => (gX12 g a_this a_this_z a_this_saved a_this_text a_this_line a_this_aside a_this_read a_this_fewest thrown z saves saved length text many line aside isWord entries rdA fewest h)) := by
  refine Kv1.mk (cc := cX12_fixOne) (nL := 1) (by decide +kernel) rfl (Nat.le_of_ble_eq_true rfl) ?_
  intro p e s m below meth c A Q ls F hl V ret _
  have hx := F.x
  have hb := F.b
  have hl : lv_has ls 1 [(0, .ref a_this)] := hl
  refine lv_aload_n hx hb dX12_fixOne_0 rfl (lv_at hl 0 rfl) ?_
  refine kget F V 8 1 0 rfl rfl iX12_fixOne_X12 fX12_fixOne_7 (by decide) rfl rfl dX12_fixOne_1 ?_
  refine lv_aload_n hx hb dX12_fixOne_4 rfl (lv_at hl 0 rfl) ?_
  refine kget F V 8 1 0 rfl rfl iX12_fixOne_X12 fX12_fixOne_7 (by decide) rfl rfl dX12_fixOne_5 ?_
  refine lv_sipush (v := 1315) hx hb dX12_fixOne_8 (by decide) ?_
  refine kiald F V 1 rfl hw.1 dX12_fixOne_11 ?_
  have hw := hw.2
  refine kSi0n (rest := [.ref a_this_z]) F hl V (kX12_itemAt l g (z (1315 : Int32).toNatClampNeg) _ hw) gX12_fixOne_X12_itemAt rfl 1 rfl hdX12_itemAt ⟨Nat.le_of_ble_eq_true rfl, Nat.le_of_ble_eq_true rfl⟩ ⟨Nat.le_of_ble_eq_true rfl, Nat.le_of_ble_eq_true rfl⟩ (Nat.le_of_ble_eq_true rfl) rfl dX12_fixOne_12 (fun r_12 H locs hw V => ?_)
  refine lv_iconst (v := 1) hx hb dX12_fixOne_15 (by decide) ?_
  refine lv_iadd hx hb dX12_fixOne_16 ?_
  refine lv_iconst (v := (-1)) hx hb dX12_fixOne_17 (by decide) ?_
  refine kiast F V 1 rfl hw.1 dX12_fixOne_18 (fun z_18 ez_18 H locs V => ?_)
  have hw := hw.2 z_18 ez_18
  have V : VW g A s.heap H locs (gX12 g a_this a_this_z a_this_saved a_this_text a_this_line a_this_aside a_this_read a_this_fewest thrown z_18 saves saved length text many line aside isWord entries rdA fewest h) := V
  refine lv_aload_n hx hb dX12_fixOne_19 rfl (lv_at hl 0 rfl) ?_
  refine kget F V 8 1 0 rfl rfl iX12_fixOne_X12 fX12_fixOne_7 (by decide) rfl rfl dX12_fixOne_20 ?_
  refine lv_sipush (v := 1315) hx hb dX12_fixOne_23 (by decide) ?_
  refine lv_dup2_11 hx hb dX12_fixOne_26 rfl rfl ?_
  refine kiald F V 1 rfl hw.1 dX12_fixOne_27 ?_
  have hw := hw.2
  refine lv_iconst (v := 1) hx hb dX12_fixOne_28 (by decide) ?_
  refine lv_iadd hx hb dX12_fixOne_29 ?_
  refine kiast F V 1 rfl hw.1 dX12_fixOne_30 (fun z_30 ez_30 H locs V => ?_)
  have hw := hw.2 z_30 ez_30
  have V : VW g A s.heap H locs (gX12 g a_this a_this_z a_this_saved a_this_text a_this_line a_this_aside a_this_read a_this_fewest thrown z_30 saves saved length text many line aside isWord entries rdA fewest h) := V
  exact ret _ _ _ _ _ dX12_fixOne_31 V hw
theorem hdX12_translate : yX12_translate.cls = RX12 ∧ yX12_translate.cls ≠ "java/lang/invoke/MethodHandle" ∧ yX12_translate.cls ≠ "java/lang/invoke/VarHandle" ∧ (parseMethodDescriptor yX12_translate.desc).map (fun d => d.parameters.length) = some 0 := by decide +kernel
theorem fX12_translate_7 : Cond.fieldLink RX12 7 RX12 "z" "[I" ∈ wsX12_translate := by decide +kernel
theorem iX12_translate_X12 : ∀ w ∈ u_ws RX12 TX12 14, w ∈ wsX12_translate := by decide +kernel
theorem fX12_translate_54 : Cond.fieldLink RX12 54 RX12 "many" "I" ∈ wsX12_translate := by decide +kernel
theorem fX12_translate_19 : Cond.fieldLink RX12 19 RX12 "line" "[I" ∈ wsX12_translate := by decide +kernel
def wX12_translate_107 (P : (Nat → Int32) → Int32 → (Nat → Int32) → Prop) : Nat → (Nat → Int32) → Int32 → (Nat → Int32) → Prop
  | 0, _, _, _ => False
  | n + 1, z, many, line => wX12_openStrokes z (fun r_108 => vp_in 1316 1317 ∧ (r_108 ≤ (z (1316 : Int32).toNatClampNeg) → P z many line) ∧ (¬ (r_108 ≤ (z (1316 : Int32).toNatClampNeg)) → wX12_fixOne (fun z_123 => (wX12_translate_107 P n) z_123 many line) z))
def wX12_translate_65 (P : (Nat → Int32) → Int32 → (Nat → Int32) → Prop) : Nat → Int32 → (Nat → Int32) → Int32 → (Nat → Int32) → Prop
  | 0, _, _, _, _ => False
  | n + 1, v1, z, many, line => (many ≤ v1 → ∃ n_107, wX12_translate_107 P n_107 z many line) ∧ (¬ (many ≤ v1) → wX12_longestAt z many line v1 (fun r_77 => wX12_makeItem line v1 r_77 (fun z_80 => vp_in 399 1317 ∧ wX12_itemAt ((z_80 (399 : Int32).toNatClampNeg) - 1) (fun r_98 => vp_in r_98 1317 ∧ ∀ v1_103 : Int32, v1_103 = (v1 + (z_80 r_98.toNatClampNeg)) → (wX12_translate_65 P n) v1_103 z_80 many line)) z))
def wX12_translate_14 (P : (Nat → Int32) → Int32 → (Nat → Int32) → Prop) : Nat → Int32 → (Nat → Int32) → Int32 → (Nat → Int32) → Prop
  | 0, _, _, _, _ => False
  | n + 1, v1, z, many, line => (many ≤ v1 → vp_in 1315 1317 ∧ vp_in 399 1317 ∧ ∀ z_59 : Nat → Int32, z_59 = upd z (399 : Int32).toNatClampNeg (z (1315 : Int32).toNatClampNeg) → wX12_fixedStrokes z_59 (fun r_61 => ∃ n_65, wX12_translate_65 P n_65 r_61 z_59 many line)) ∧ (¬ (many ≤ v1) → vp_in (338 + v1) 1317 ∧ vp_in v1 240 ∧ ∀ line_37 : Nat → Int32, line_37 = upd line v1.toNatClampNeg (z (338 + v1).toNatClampNeg) → (wX12_translate_14 P n) (v1 + 1) z many line_37)
def wX12_translate (P : (Nat → Int32) → Int32 → (Nat → Int32) → Prop) (z : Nat → Int32) (many : Int32) (line : Nat → Int32) : Prop := vp_in 337 1317 ∧ ∀ many_9 : Int32, many_9 = (z (337 : Int32).toNatClampNeg) → ∃ n_14, wX12_translate_14 P n_14 0 z many_9 line
set_option maxHeartbeats 4000000 in
set_option maxRecDepth 100000 in
theorem kX12_translate (l : Launch) (g : kT) (a_this : Nat) (a_this_z : Nat) (a_this_saved : Nat) (a_this_text : Nat) (a_this_line : Nat) (a_this_aside : Nat) (a_this_read : Nat) (a_this_fewest : Nat) (thrown : Int32) (z : Nat → Int32) (saves : Int32) (saved : Nat → Int32) (length : Int32) (text : Nat → Int32) (many : Int32) (line : Nat → Int32) (aside : Nat → Int32) (isWord : Int32) (entries : Int32) (rdA : Nat → Int32) (fewest : Nat → Int32) (h : Int64) (P : (Nat → Int32) → Int32 → (Nat → Int32) → Prop) (hw : wX12_translate P z many line) : Kv3 l g yX12_translate wsX12_translate 3 62 0 0 [.ref a_this] (gX12 g a_this a_this_z a_this_saved a_this_text a_this_line a_this_aside a_this_read a_this_fewest thrown z saves saved length text many line aside isWord entries rdA fewest h) P (fun z many line => (gX12 g a_this a_this_z a_this_saved a_this_text a_this_line a_this_aside a_this_read a_this_fewest thrown z saves saved length text many line aside isWord entries rdA fewest h)) := by
  refine Kv3.mk (cc := cX12_translate) (nL := 2) (by decide +kernel) rfl (Nat.le_of_ble_eq_true rfl) ?_
  intro p e s m below meth c A Q ls F hl V ret _
  have hx := F.x
  have hb := F.b
  have hl : lv_has ls 2 [(0, .ref a_this)] := hl
  have B107 :  ∀ (n : Nat), ∀ {H : Heap} {locs : List Loc} {ls : Array Slot} (z : Nat → Int32) (many : Int32) (line : Nat → Int32) (V : VW g A s.heap H locs (gX12 g a_this a_this_z a_this_saved a_this_text a_this_line a_this_aside a_this_read a_this_fewest thrown z saves saved length text many line aside isWord entries rdA fewest h)) (hl : lv_has ls 2 [(0, .ref a_this)]) (hw : wX12_translate_107 P n z many line), W p l e (kR 3 62 0 0) s m ([.ref a_this] : List Value).toArray below meth c H locs 0 0 Q (F0 m 107 ls []) := by
    intro n
    induction n with
    | zero => intro _ _ _ _ _ _ V hl hw; exact hw.elim
    | succ n ih =>
      intro H locs ls z many line V hl hw
      refine lv_aload_n hx hb dX12_translate_107 rfl (lv_at hl 0 rfl) ?_
      refine kVi0 (rest := []) F hl V [0, 1, 2, 3, 4, 5, 6, 7] [] [0, 1, 2, 3, 4, 5, 6, 7] (gX12 g a_this a_this_z a_this_saved a_this_text a_this_line a_this_aside a_this_read a_this_fewest thrown z saves saved length text many line aside isWord entries rdA fewest h) a_this 8 0 rfl rfl (kX12_openStrokes l g a_this a_this_z a_this_saved a_this_text a_this_line a_this_aside a_this_read a_this_fewest thrown z saves saved length text many line aside isWord entries rdA fewest h _ hw) gX12_translate_X12_openStrokes rfl 0 rfl hdX12_openStrokes rfl rfl (fun _ => rfl) rfl rfl rfl (by decide) ⟨Nat.le_of_ble_eq_true rfl, Nat.le_of_ble_eq_true rfl⟩ ⟨Nat.le_of_ble_eq_true rfl, Nat.le_of_ble_eq_true rfl⟩ (Nat.le_of_ble_eq_true rfl) rfl dX12_translate_108 (fun r_108 H locs hw V => ?_)
      refine lv_aload_n hx hb dX12_translate_111 rfl (lv_at hl 0 rfl) ?_
      refine kget F V 8 1 0 rfl rfl iX12_translate_X12 fX12_translate_7 (by decide) rfl rfl dX12_translate_112 ?_
      refine lv_sipush (v := 1316) hx hb dX12_translate_115 (by decide) ?_
      refine kiald F V 1 rfl hw.1 dX12_translate_118 ?_
      have hw := hw.2
      refine lv_icmp_le (tgt := 129) hx hb dX12_translate_119 (by decide) (fun c_119 => ?_) (fun c_119 => ?_)
      · have hw := hw.1 c_119
        exact ret _ _ _ _ _ _ _ dX12_translate_129 V hw
      · have hw := hw.2 c_119
        refine lv_aload_n hx hb dX12_translate_122 rfl (lv_at hl 0 rfl) ?_
        refine kVv1 (rest := []) F hl V [0, 1, 2, 3, 4, 5, 6, 7] [] [0, 1, 2, 3, 4, 5, 6, 7] (fun z_123 => (gX12 g a_this a_this_z a_this_saved a_this_text a_this_line a_this_aside a_this_read a_this_fewest thrown z_123 saves saved length text many line aside isWord entries rdA fewest h)) a_this 8 0 rfl rfl (kX12_fixOne l g a_this a_this_z a_this_saved a_this_text a_this_line a_this_aside a_this_read a_this_fewest thrown z saves saved length text many line aside isWord entries rdA fewest h _ hw) gX12_translate_X12_fixOne rfl 0 rfl hdX12_fixOne rfl rfl (fun _ => rfl) rfl rfl rfl (by decide) ⟨Nat.le_of_ble_eq_true rfl, Nat.le_of_ble_eq_true rfl⟩ ⟨Nat.le_of_ble_eq_true rfl, Nat.le_of_ble_eq_true rfl⟩ (Nat.le_of_ble_eq_true rfl) rfl dX12_translate_123 (fun z_123 H locs hw V => ?_)
        refine lv_goto (tgt := 107) hx hb dX12_translate_126 (by decide) ?_
        exact ih z_123 many line V hl hw
  have B65 :  ∀ (n : Nat), ∀ {H : Heap} {locs : List Loc} {ls : Array Slot} (v1 : Int32) (z : Nat → Int32) (many : Int32) (line : Nat → Int32) (V : VW g A s.heap H locs (gX12 g a_this a_this_z a_this_saved a_this_text a_this_line a_this_aside a_this_read a_this_fewest thrown z saves saved length text many line aside isWord entries rdA fewest h)) (hl : lv_has ls 2 [(0, .ref a_this), (1, .int v1)]) (hw : wX12_translate_65 P n v1 z many line), W p l e (kR 3 62 0 0) s m ([.ref a_this] : List Value).toArray below meth c H locs 0 0 Q (F0 m 65 ls []) := by
    intro n
    induction n with
    | zero => intro _ _ _ _ _ _ _ V hl hw; exact hw.elim
    | succ n ih =>
      intro H locs ls v1 z many line V hl hw
      refine lv_iload_n hx hb dX12_translate_65 rfl (lv_at hl 1 rfl) ?_
      refine lv_aload_n hx hb dX12_translate_66 rfl (lv_at hl 0 rfl) ?_
      refine kget F V 8 6 0 rfl rfl iX12_translate_X12 fX12_translate_54 (by decide) rfl rfl dX12_translate_67 ?_
      refine lv_icmp_ge (tgt := 107) hx hb dX12_translate_70 (by decide) (fun c_70 => ?_) (fun c_70 => ?_)
      · have hw := hw.1 c_70
        obtain ⟨n_107, hw⟩ := hw
        exact B107  n_107 z many line V (lv_sub hl [0] rfl) hw
      · have hw := hw.2 c_70
        refine lv_aload_n hx hb dX12_translate_73 rfl (lv_at hl 0 rfl) ?_
        refine lv_iload_n hx hb dX12_translate_74 rfl (lv_at hl 1 rfl) ?_
        refine lv_aload_n hx hb dX12_translate_75 rfl (lv_at hl 0 rfl) ?_
        refine lv_iload_n hx hb dX12_translate_76 rfl (lv_at hl 1 rfl) ?_
        refine kVi0 (rest := [.int v1, .ref a_this]) F hl V [0, 1, 2, 3, 4, 5, 6, 7] [] [0, 1, 2, 3, 4, 5, 6, 7] (gX12 g a_this a_this_z a_this_saved a_this_text a_this_line a_this_aside a_this_read a_this_fewest thrown z saves saved length text many line aside isWord entries rdA fewest h) a_this 8 0 rfl rfl (kX12_longestAt l g a_this a_this_z a_this_saved a_this_text a_this_line a_this_aside a_this_read a_this_fewest thrown z saves saved length text many line aside isWord entries rdA fewest h v1 _ hw) gX12_translate_X12_longestAt rfl 1 rfl hdX12_longestAt rfl rfl (fun _ => rfl) rfl rfl rfl (by decide) ⟨Nat.le_of_ble_eq_true rfl, Nat.le_of_ble_eq_true rfl⟩ ⟨Nat.le_of_ble_eq_true rfl, Nat.le_of_ble_eq_true rfl⟩ (Nat.le_of_ble_eq_true rfl) rfl dX12_translate_77 (fun r_77 H locs hw V => ?_)
        refine kVv1 (rest := []) F hl V [0, 1, 2, 3, 4, 5, 6, 7] [] [0, 1, 2, 3, 4, 5, 6, 7] (fun z_80 => (gX12 g a_this a_this_z a_this_saved a_this_text a_this_line a_this_aside a_this_read a_this_fewest thrown z_80 saves saved length text many line aside isWord entries rdA fewest h)) a_this 8 0 rfl rfl (kX12_makeItem l g a_this a_this_z a_this_saved a_this_text a_this_line a_this_aside a_this_read a_this_fewest thrown z saves saved length text many line aside isWord entries rdA fewest h v1 r_77 _ hw) gX12_translate_X12_makeItem rfl 2 rfl hdX12_makeItem rfl rfl (fun _ => rfl) rfl rfl rfl (by decide) ⟨Nat.le_of_ble_eq_true rfl, Nat.le_of_ble_eq_true rfl⟩ ⟨Nat.le_of_ble_eq_true rfl, Nat.le_of_ble_eq_true rfl⟩ (Nat.le_of_ble_eq_true rfl) rfl dX12_translate_80 (fun z_80 H locs hw V => ?_)
        refine lv_iload_n hx hb dX12_translate_83 rfl (lv_at hl 1 rfl) ?_
        refine lv_aload_n hx hb dX12_translate_84 rfl (lv_at hl 0 rfl) ?_
        refine kget F V 8 1 0 rfl rfl iX12_translate_X12 fX12_translate_7 (by decide) rfl rfl dX12_translate_85 ?_
        refine lv_aload_n hx hb dX12_translate_88 rfl (lv_at hl 0 rfl) ?_
        refine kget F V 8 1 0 rfl rfl iX12_translate_X12 fX12_translate_7 (by decide) rfl rfl dX12_translate_89 ?_
        refine lv_sipush (v := 399) hx hb dX12_translate_92 (by decide) ?_
        refine kiald F V 1 rfl hw.1 dX12_translate_95 ?_
        have hw := hw.2
        refine lv_iconst (v := 1) hx hb dX12_translate_96 (by decide) ?_
        refine lv_isub hx hb dX12_translate_97 ?_
        refine kSi0n (rest := [.ref a_this_z, .int v1]) F hl V (kX12_itemAt l g ((z_80 (399 : Int32).toNatClampNeg) - 1) _ hw) gX12_translate_X12_itemAt rfl 1 rfl hdX12_itemAt ⟨Nat.le_of_ble_eq_true rfl, Nat.le_of_ble_eq_true rfl⟩ ⟨Nat.le_of_ble_eq_true rfl, Nat.le_of_ble_eq_true rfl⟩ (Nat.le_of_ble_eq_true rfl) rfl dX12_translate_98 (fun r_98 H locs hw V => ?_)
        refine kiald F V 1 rfl hw.1 dX12_translate_101 ?_
        have hw := hw.2
        refine lv_iadd hx hb dX12_translate_102 ?_
        refine lv_topi (fun v1_103 ev1_103 => ?_)
        have hw := hw v1_103 ev1_103
        refine lv_istore_n (lv' := [(1, .int v1_103), (0, .ref a_this)]) hx hb dX12_translate_103 rfl hl (by decide) rfl (fun ls hl => ?_)
        refine lv_goto (tgt := 65) hx hb dX12_translate_104 (by decide) ?_
        exact ih v1_103 z_80 many line V (lv_sub hl [1, 0] rfl) hw
  have B14 :  ∀ (n : Nat), ∀ {H : Heap} {locs : List Loc} {ls : Array Slot} (v1 : Int32) (z : Nat → Int32) (many : Int32) (line : Nat → Int32) (V : VW g A s.heap H locs (gX12 g a_this a_this_z a_this_saved a_this_text a_this_line a_this_aside a_this_read a_this_fewest thrown z saves saved length text many line aside isWord entries rdA fewest h)) (hl : lv_has ls 2 [(0, .ref a_this), (1, .int v1)]) (hw : wX12_translate_14 P n v1 z many line), W p l e (kR 3 62 0 0) s m ([.ref a_this] : List Value).toArray below meth c H locs 0 0 Q (F0 m 14 ls []) := by
    intro n
    induction n with
    | zero => intro _ _ _ _ _ _ _ V hl hw; exact hw.elim
    | succ n ih =>
      intro H locs ls v1 z many line V hl hw
      refine lv_iload_n hx hb dX12_translate_14 rfl (lv_at hl 1 rfl) ?_
      refine lv_aload_n hx hb dX12_translate_15 rfl (lv_at hl 0 rfl) ?_
      refine kget F V 8 6 0 rfl rfl iX12_translate_X12 fX12_translate_54 (by decide) rfl rfl dX12_translate_16 ?_
      refine lv_icmp_ge (tgt := 44) hx hb dX12_translate_19 (by decide) (fun c_19 => ?_) (fun c_19 => ?_)
      · have hw := hw.1 c_19
        refine lv_aload_n hx hb dX12_translate_44 rfl (lv_at hl 0 rfl) ?_
        refine kget F V 8 1 0 rfl rfl iX12_translate_X12 fX12_translate_7 (by decide) rfl rfl dX12_translate_45 ?_
        refine lv_sipush (v := 399) hx hb dX12_translate_48 (by decide) ?_
        refine lv_aload_n hx hb dX12_translate_51 rfl (lv_at hl 0 rfl) ?_
        refine kget F V 8 1 0 rfl rfl iX12_translate_X12 fX12_translate_7 (by decide) rfl rfl dX12_translate_52 ?_
        refine lv_sipush (v := 1315) hx hb dX12_translate_55 (by decide) ?_
        refine kiald F V 1 rfl hw.1 dX12_translate_58 ?_
        have hw := hw.2
        refine kiast F V 1 rfl hw.1 dX12_translate_59 (fun z_59 ez_59 H locs V => ?_)
        have hw := hw.2 z_59 ez_59
        have V : VW g A s.heap H locs (gX12 g a_this a_this_z a_this_saved a_this_text a_this_line a_this_aside a_this_read a_this_fewest thrown z_59 saves saved length text many line aside isWord entries rdA fewest h) := V
        refine lv_aload_n hx hb dX12_translate_60 rfl (lv_at hl 0 rfl) ?_
        refine kVi0 (rest := []) F hl V [0, 1, 2, 3, 4, 5, 6, 7] [] [0, 1, 2, 3, 4, 5, 6, 7] (gX12 g a_this a_this_z a_this_saved a_this_text a_this_line a_this_aside a_this_read a_this_fewest thrown z_59 saves saved length text many line aside isWord entries rdA fewest h) a_this 8 0 rfl rfl (kX12_fixedStrokes l g a_this a_this_z a_this_saved a_this_text a_this_line a_this_aside a_this_read a_this_fewest thrown z_59 saves saved length text many line aside isWord entries rdA fewest h _ hw) gX12_translate_X12_fixedStrokes rfl 0 rfl hdX12_fixedStrokes rfl rfl (fun _ => rfl) rfl rfl rfl (by decide) ⟨Nat.le_of_ble_eq_true rfl, Nat.le_of_ble_eq_true rfl⟩ ⟨Nat.le_of_ble_eq_true rfl, Nat.le_of_ble_eq_true rfl⟩ (Nat.le_of_ble_eq_true rfl) rfl dX12_translate_61 (fun r_61 H locs hw V => ?_)
        refine lv_istore_n (lv' := [(1, .int r_61), (0, .ref a_this)]) hx hb dX12_translate_64 rfl hl (by decide) rfl (fun ls hl => ?_)
        obtain ⟨n_65, hw⟩ := hw
        exact B65  n_65 r_61 z_59 many line V (lv_sub hl [1, 0] rfl) hw
      · have hw := hw.2 c_19
        refine lv_aload_n hx hb dX12_translate_22 rfl (lv_at hl 0 rfl) ?_
        refine kget F V 8 7 0 rfl rfl iX12_translate_X12 fX12_translate_19 (by decide) rfl rfl dX12_translate_23 ?_
        refine lv_iload_n hx hb dX12_translate_26 rfl (lv_at hl 1 rfl) ?_
        refine lv_aload_n hx hb dX12_translate_27 rfl (lv_at hl 0 rfl) ?_
        refine kget F V 8 1 0 rfl rfl iX12_translate_X12 fX12_translate_7 (by decide) rfl rfl dX12_translate_28 ?_
        refine lv_sipush (v := 338) hx hb dX12_translate_31 (by decide) ?_
        refine lv_iload_n hx hb dX12_translate_34 rfl (lv_at hl 1 rfl) ?_
        refine lv_iadd hx hb dX12_translate_35 ?_
        refine kiald F V 1 rfl hw.1 dX12_translate_36 ?_
        have hw := hw.2
        refine kiast F V 4 rfl hw.1 dX12_translate_37 (fun line_37 eline_37 H locs V => ?_)
        have hw := hw.2 line_37 eline_37
        have V : VW g A s.heap H locs (gX12 g a_this a_this_z a_this_saved a_this_text a_this_line a_this_aside a_this_read a_this_fewest thrown z saves saved length text many line_37 aside isWord entries rdA fewest h) := V
        refine lv_iinc (v := v1 + 1) (lv' := [(1, .int (v1 + 1)), (0, .ref a_this)]) hx hb dX12_translate_38 hl (k := 1) rfl rfl (by decide) rfl (fun ls hl => ?_)
        refine lv_goto (tgt := 14) hx hb dX12_translate_41 (by decide) ?_
        exact ih (v1 + 1) z many line_37 V (lv_sub hl [1, 0] rfl) hw
  refine lv_aload_n hx hb dX12_translate_0 rfl (lv_at hl 0 rfl) ?_
  refine lv_aload_n hx hb dX12_translate_1 rfl (lv_at hl 0 rfl) ?_
  refine kget F V 8 1 0 rfl rfl iX12_translate_X12 fX12_translate_7 (by decide) rfl rfl dX12_translate_2 ?_
  refine lv_sipush (v := 337) hx hb dX12_translate_5 (by decide) ?_
  refine kiald F V 1 rfl hw.1 dX12_translate_8 ?_
  have hw := hw.2
  refine lv_topi (fun many_9 emany_9 => ?_)
  have hw := hw many_9 emany_9
  refine kput F V 8 6 0 tyX12_ok nmX12 rfl rfl iX12_translate_X12 fX12_translate_54 (by decide) rfl rfl rfl rfl (Nat.le_of_ble_eq_true rfl) dX12_translate_9 (fun H locs V => ?_)
  have V : VW g A s.heap H locs (gX12 g a_this a_this_z a_this_saved a_this_text a_this_line a_this_aside a_this_read a_this_fewest thrown z saves saved length text many_9 line aside isWord entries rdA fewest h) := V
  refine lv_iconst (v := 0) hx hb dX12_translate_12 (by decide) ?_
  refine lv_istore_n (lv' := [(1, .int 0), (0, .ref a_this)]) hx hb dX12_translate_13 rfl hl (by decide) rfl (fun ls hl => ?_)
  obtain ⟨n_14, hw⟩ := hw
  exact B14  n_14 0 z many_9 line V (lv_sub hl [1, 0] rfl) hw
theorem hdX12_save : yX12_save.cls = RX12 ∧ yX12_save.cls ≠ "java/lang/invoke/MethodHandle" ∧ yX12_save.cls ≠ "java/lang/invoke/VarHandle" ∧ (parseMethodDescriptor yX12_save.desc).map (fun d => d.parameters.length) = some 0 := by decide +kernel
theorem fX12_save_80 : Cond.fieldLink RX12 80 RX12 "saves" "I" ∈ wsX12_save := by decide +kernel
theorem iX12_save_X12 : ∀ w ∈ u_ws RX12 TX12 14, w ∈ wsX12_save := by decide +kernel
theorem fX12_save_13 : Cond.fieldLink RX12 13 RX12 "saved" "[I" ∈ wsX12_save := by decide +kernel
theorem fX12_save_7 : Cond.fieldLink RX12 7 RX12 "z" "[I" ∈ wsX12_save := by decide +kernel
def wX12_save_54 (z : Nat → Int32) (P : Int32 → (Nat → Int32) → Prop) : Nat → Int32 → Int32 → (Nat → Int32) → Prop
  | 0, _, _, _ => False
  | n + 1, v1, saves, saved => (1317 ≤ v1 → ∀ saves_95 : Int32, saves_95 = (saves + 1) → P saves_95 saved) ∧ (¬ (1317 ≤ v1) → vp_in v1 1317 ∧ vp_in ((1317 * saves) + v1) 10536 ∧ ∀ saved_81 : Nat → Int32, saved_81 = upd saved ((1317 * saves) + v1).toNatClampNeg (z v1.toNatClampNeg) → (wX12_save_54 z P n) (v1 + 1) saves saved_81)
def wX12_save_52 (z : Nat → Int32) (P : Int32 → (Nat → Int32) → Prop) (saves : Int32) (saved : Nat → Int32) : Prop := ∃ n_54, wX12_save_54 z P n_54 0 saves saved
def wX12_save_13 (z : Nat → Int32) (P : Int32 → (Nat → Int32) → Prop) : Nat → Int32 → Int32 → (Nat → Int32) → Prop
  | 0, _, _, _ => False
  | n + 1, v1, saves, saved => (10536 ≤ v1 → ∀ saves_49 : Int32, saves_49 = (saves - 1) → wX12_save_52 z P saves_49 saved) ∧ (¬ (10536 ≤ v1) → vp_in v1 10536 ∧ vp_in (v1 - 1317) 10536 ∧ ∀ saved_35 : Nat → Int32, saved_35 = upd saved (v1 - 1317).toNatClampNeg (saved v1.toNatClampNeg) → (wX12_save_13 z P n) (v1 + 1) saves saved_35)
def wX12_save (z : Nat → Int32) (P : Int32 → (Nat → Int32) → Prop) (saves : Int32) (saved : Nat → Int32) : Prop := (¬ saves = 8 → wX12_save_52 z P saves saved) ∧ (saves = 8 → ∃ n_13, wX12_save_13 z P n_13 1317 saves saved)
set_option maxHeartbeats 4000000 in
set_option maxRecDepth 100000 in
theorem kX12_save (l : Launch) (g : kT) (a_this : Nat) (a_this_z : Nat) (a_this_saved : Nat) (a_this_text : Nat) (a_this_line : Nat) (a_this_aside : Nat) (a_this_read : Nat) (a_this_fewest : Nat) (thrown : Int32) (z : Nat → Int32) (saves : Int32) (saved : Nat → Int32) (length : Int32) (text : Nat → Int32) (many : Int32) (line : Nat → Int32) (aside : Nat → Int32) (isWord : Int32) (entries : Int32) (rdA : Nat → Int32) (fewest : Nat → Int32) (h : Int64) (P : Int32 → (Nat → Int32) → Prop) (hw : wX12_save z P saves saved) : Kv2 l g yX12_save wsX12_save 0 0 0 0 [.ref a_this] (gX12 g a_this a_this_z a_this_saved a_this_text a_this_line a_this_aside a_this_read a_this_fewest thrown z saves saved length text many line aside isWord entries rdA fewest h) P (fun saves saved => (gX12 g a_this a_this_z a_this_saved a_this_text a_this_line a_this_aside a_this_read a_this_fewest thrown z saves saved length text many line aside isWord entries rdA fewest h)) := by
  refine Kv2.mk (cc := cX12_save) (nL := 2) (by decide +kernel) rfl (Nat.le_of_ble_eq_true rfl) ?_
  intro p e s m below meth c A Q ls F hl V ret _
  have hx := F.x
  have hb := F.b
  have hl : lv_has ls 2 [(0, .ref a_this)] := hl
  have B54 :  ∀ (n : Nat), ∀ {H : Heap} {locs : List Loc} {ls : Array Slot} (v1 : Int32) (saves : Int32) (saved : Nat → Int32) (V : VW g A s.heap H locs (gX12 g a_this a_this_z a_this_saved a_this_text a_this_line a_this_aside a_this_read a_this_fewest thrown z saves saved length text many line aside isWord entries rdA fewest h)) (hl : lv_has ls 2 [(0, .ref a_this), (1, .int v1)]) (hw : wX12_save_54 z P n v1 saves saved), W p l e (kR 0 0 0 0) s m ([.ref a_this] : List Value).toArray below meth c H locs 0 0 Q (F0 m 54 ls []) := by
    intro n
    induction n with
    | zero => intro _ _ _ _ _ _ V hl hw; exact hw.elim
    | succ n ih =>
      intro H locs ls v1 saves saved V hl hw
      refine lv_iload_n hx hb dX12_save_54 rfl (lv_at hl 1 rfl) ?_
      refine lv_sipush (v := 1317) hx hb dX12_save_55 (by decide) ?_
      refine lv_icmp_ge (tgt := 88) hx hb dX12_save_58 (by decide) (fun c_58 => ?_) (fun c_58 => ?_)
      · have hw := hw.1 c_58
        refine lv_aload_n hx hb dX12_save_88 rfl (lv_at hl 0 rfl) ?_
        refine lv_dup hx hb dX12_save_89 rfl ?_
        refine kget F V 8 2 0 rfl rfl iX12_save_X12 fX12_save_80 (by decide) rfl rfl dX12_save_90 ?_
        refine lv_iconst (v := 1) hx hb dX12_save_93 (by decide) ?_
        refine lv_iadd hx hb dX12_save_94 ?_
        refine lv_topi (fun saves_95 esaves_95 => ?_)
        have hw := hw saves_95 esaves_95
        refine kput F V 8 2 0 tyX12_ok nmX12 rfl rfl iX12_save_X12 fX12_save_80 (by decide) rfl rfl rfl rfl (Nat.le_of_ble_eq_true rfl) dX12_save_95 (fun H locs V => ?_)
        have V : VW g A s.heap H locs (gX12 g a_this a_this_z a_this_saved a_this_text a_this_line a_this_aside a_this_read a_this_fewest thrown z saves_95 saved length text many line aside isWord entries rdA fewest h) := V
        exact ret _ _ _ _ _ _ dX12_save_98 V hw
      · have hw := hw.2 c_58
        refine lv_aload_n hx hb dX12_save_61 rfl (lv_at hl 0 rfl) ?_
        refine kget F V 8 3 0 rfl rfl iX12_save_X12 fX12_save_13 (by decide) rfl rfl dX12_save_62 ?_
        refine lv_sipush (v := 1317) hx hb dX12_save_65 (by decide) ?_
        refine lv_aload_n hx hb dX12_save_68 rfl (lv_at hl 0 rfl) ?_
        refine kget F V 8 2 0 rfl rfl iX12_save_X12 fX12_save_80 (by decide) rfl rfl dX12_save_69 ?_
        refine lv_imul hx hb dX12_save_72 ?_
        refine lv_iload_n hx hb dX12_save_73 rfl (lv_at hl 1 rfl) ?_
        refine lv_iadd hx hb dX12_save_74 ?_
        refine lv_aload_n hx hb dX12_save_75 rfl (lv_at hl 0 rfl) ?_
        refine kget F V 8 1 0 rfl rfl iX12_save_X12 fX12_save_7 (by decide) rfl rfl dX12_save_76 ?_
        refine lv_iload_n hx hb dX12_save_79 rfl (lv_at hl 1 rfl) ?_
        refine kiald F V 1 rfl hw.1 dX12_save_80 ?_
        have hw := hw.2
        refine kiast F V 2 rfl hw.1 dX12_save_81 (fun saved_81 esaved_81 H locs V => ?_)
        have hw := hw.2 saved_81 esaved_81
        have V : VW g A s.heap H locs (gX12 g a_this a_this_z a_this_saved a_this_text a_this_line a_this_aside a_this_read a_this_fewest thrown z saves saved_81 length text many line aside isWord entries rdA fewest h) := V
        refine lv_iinc (v := v1 + 1) (lv' := [(1, .int (v1 + 1)), (0, .ref a_this)]) hx hb dX12_save_82 hl (k := 1) rfl rfl (by decide) rfl (fun ls hl => ?_)
        refine lv_goto (tgt := 54) hx hb dX12_save_85 (by decide) ?_
        exact ih (v1 + 1) saves saved_81 V (lv_sub hl [1, 0] rfl) hw
  have B52 :  ∀ {H : Heap} {locs : List Loc} {ls : Array Slot} (saves : Int32) (saved : Nat → Int32) (V : VW g A s.heap H locs (gX12 g a_this a_this_z a_this_saved a_this_text a_this_line a_this_aside a_this_read a_this_fewest thrown z saves saved length text many line aside isWord entries rdA fewest h)) (hl : lv_has ls 2 [(0, .ref a_this)]) (hw : wX12_save_52 z P saves saved), W p l e (kR 0 0 0 0) s m ([.ref a_this] : List Value).toArray below meth c H locs 0 0 Q (F0 m 52 ls []) := by
    intro  H locs ls saves saved V hl hw
    refine lv_iconst (v := 0) hx hb dX12_save_52 (by decide) ?_
    refine lv_istore_n (lv' := [(1, .int 0), (0, .ref a_this)]) hx hb dX12_save_53 rfl hl (by decide) rfl (fun ls hl => ?_)
    obtain ⟨n_54, hw⟩ := hw
    exact B54  n_54 0 saves saved V (lv_sub hl [1, 0] rfl) hw
  have B13 :  ∀ (n : Nat), ∀ {H : Heap} {locs : List Loc} {ls : Array Slot} (v1 : Int32) (saves : Int32) (saved : Nat → Int32) (V : VW g A s.heap H locs (gX12 g a_this a_this_z a_this_saved a_this_text a_this_line a_this_aside a_this_read a_this_fewest thrown z saves saved length text many line aside isWord entries rdA fewest h)) (hl : lv_has ls 2 [(0, .ref a_this), (1, .int v1)]) (hw : wX12_save_13 z P n v1 saves saved), W p l e (kR 0 0 0 0) s m ([.ref a_this] : List Value).toArray below meth c H locs 0 0 Q (F0 m 13 ls []) := by
    intro n
    induction n with
    | zero => intro _ _ _ _ _ _ V hl hw; exact hw.elim
    | succ n ih =>
      intro H locs ls v1 saves saved V hl hw
      refine lv_iload_n hx hb dX12_save_13 rfl (lv_at hl 1 rfl) ?_
      refine lv_sipush (v := 10536) hx hb dX12_save_14 (by decide) ?_
      refine lv_icmp_ge (tgt := 42) hx hb dX12_save_17 (by decide) (fun c_17 => ?_) (fun c_17 => ?_)
      · have hw := hw.1 c_17
        refine lv_aload_n hx hb dX12_save_42 rfl (lv_at hl 0 rfl) ?_
        refine lv_dup hx hb dX12_save_43 rfl ?_
        refine kget F V 8 2 0 rfl rfl iX12_save_X12 fX12_save_80 (by decide) rfl rfl dX12_save_44 ?_
        refine lv_iconst (v := 1) hx hb dX12_save_47 (by decide) ?_
        refine lv_isub hx hb dX12_save_48 ?_
        refine lv_topi (fun saves_49 esaves_49 => ?_)
        have hw := hw saves_49 esaves_49
        refine kput F V 8 2 0 tyX12_ok nmX12 rfl rfl iX12_save_X12 fX12_save_80 (by decide) rfl rfl rfl rfl (Nat.le_of_ble_eq_true rfl) dX12_save_49 (fun H locs V => ?_)
        have V : VW g A s.heap H locs (gX12 g a_this a_this_z a_this_saved a_this_text a_this_line a_this_aside a_this_read a_this_fewest thrown z saves_49 saved length text many line aside isWord entries rdA fewest h) := V
        exact B52  saves_49 saved V (lv_sub hl [0] rfl) hw
      · have hw := hw.2 c_17
        refine lv_aload_n hx hb dX12_save_20 rfl (lv_at hl 0 rfl) ?_
        refine kget F V 8 3 0 rfl rfl iX12_save_X12 fX12_save_13 (by decide) rfl rfl dX12_save_21 ?_
        refine lv_iload_n hx hb dX12_save_24 rfl (lv_at hl 1 rfl) ?_
        refine lv_sipush (v := 1317) hx hb dX12_save_25 (by decide) ?_
        refine lv_isub hx hb dX12_save_28 ?_
        refine lv_aload_n hx hb dX12_save_29 rfl (lv_at hl 0 rfl) ?_
        refine kget F V 8 3 0 rfl rfl iX12_save_X12 fX12_save_13 (by decide) rfl rfl dX12_save_30 ?_
        refine lv_iload_n hx hb dX12_save_33 rfl (lv_at hl 1 rfl) ?_
        refine kiald F V 2 rfl hw.1 dX12_save_34 ?_
        have hw := hw.2
        refine kiast F V 2 rfl hw.1 dX12_save_35 (fun saved_35 esaved_35 H locs V => ?_)
        have hw := hw.2 saved_35 esaved_35
        have V : VW g A s.heap H locs (gX12 g a_this a_this_z a_this_saved a_this_text a_this_line a_this_aside a_this_read a_this_fewest thrown z saves saved_35 length text many line aside isWord entries rdA fewest h) := V
        refine lv_iinc (v := v1 + 1) (lv' := [(1, .int (v1 + 1)), (0, .ref a_this)]) hx hb dX12_save_36 hl (k := 1) rfl rfl (by decide) rfl (fun ls hl => ?_)
        refine lv_goto (tgt := 13) hx hb dX12_save_39 (by decide) ?_
        exact ih (v1 + 1) saves saved_35 V (lv_sub hl [1, 0] rfl) hw
  refine lv_aload_n hx hb dX12_save_0 rfl (lv_at hl 0 rfl) ?_
  refine kget F V 8 2 0 rfl rfl iX12_save_X12 fX12_save_80 (by decide) rfl rfl dX12_save_1 ?_
  refine lv_bipush (v := 8) hx hb dX12_save_4 (by decide) ?_
  refine lv_icmp_ne (tgt := 52) hx hb dX12_save_6 (by decide) (fun c_6 => ?_) (fun c_6 => ?_)
  · have hw := hw.1 c_6
    exact B52  saves saved V hl hw
  · have hw := hw.2 c_6
    refine lv_sipush (v := 1317) hx hb dX12_save_9 (by decide) ?_
    refine lv_istore_n (lv' := [(1, .int 1317), (0, .ref a_this)]) hx hb dX12_save_12 rfl hl (by decide) rfl (fun ls hl => ?_)
    obtain ⟨n_13, hw⟩ := hw
    exact B13  n_13 1317 saves saved V (lv_sub hl [1, 0] rfl) hw
theorem hdX12_undo : yX12_undo.cls = RX12 ∧ yX12_undo.cls ≠ "java/lang/invoke/MethodHandle" ∧ yX12_undo.cls ≠ "java/lang/invoke/VarHandle" ∧ (parseMethodDescriptor yX12_undo.desc).map (fun d => d.parameters.length) = some 0 := by decide +kernel
theorem fX12_undo_80 : Cond.fieldLink RX12 80 RX12 "saves" "I" ∈ wsX12_undo := by decide +kernel
theorem iX12_undo_X12 : ∀ w ∈ u_ws RX12 TX12 14, w ∈ wsX12_undo := by decide +kernel
theorem fX12_undo_31 : Cond.fieldLink RX12 31 RX12 "thrown" "I" ∈ wsX12_undo := by decide +kernel
theorem fX12_undo_7 : Cond.fieldLink RX12 7 RX12 "z" "[I" ∈ wsX12_undo := by decide +kernel
theorem fX12_undo_13 : Cond.fieldLink RX12 13 RX12 "saved" "[I" ∈ wsX12_undo := by decide +kernel
def wX12_undo_37 (saved : Nat → Int32) (P : Int32 → Int32 → (Nat → Int32) → Int32 → Prop) : Nat → Int32 → Int32 → (Nat → Int32) → Int32 → Prop
  | 0, _, _, _, _ => False
  | n + 1, v1, thrown, z, saves => (1317 ≤ v1 → P saves thrown z saves) ∧ (¬ (1317 ≤ v1) → vp_in ((1317 * saves) + v1) 10536 ∧ vp_in v1 1317 ∧ ∀ z_64 : Nat → Int32, z_64 = upd z v1.toNatClampNeg (saved ((1317 * saves) + v1).toNatClampNeg) → (wX12_undo_37 saved P n) (v1 + 1) thrown z_64 saves)
def wX12_undo_13 (saved : Nat → Int32) (P : Int32 → Int32 → (Nat → Int32) → Int32 → Prop) (s1 : Int32) (thrown : Int32) (z : Nat → Int32) (saves : Int32) : Prop := (s1 ≤ 0 → ∀ saves_32 : Int32, saves_32 = (saves - 1) → ∃ n_37, wX12_undo_37 saved P n_37 0 s1 z saves_32) ∧ (¬ (s1 ≤ 0) → P 0 s1 z saves)
def wX12_undo (saved : Nat → Int32) (P : Int32 → Int32 → (Nat → Int32) → Int32 → Prop) (thrown : Int32) (z : Nat → Int32) (saves : Int32) : Prop := (saves ≤ 0 → wX12_undo_13 saved P 1 thrown z saves) ∧ (¬ (saves ≤ 0) → wX12_undo_13 saved P 0 thrown z saves)
set_option maxHeartbeats 4000000 in
set_option maxRecDepth 100000 in
theorem kX12_undo (l : Launch) (g : kT) (a_this : Nat) (a_this_z : Nat) (a_this_saved : Nat) (a_this_text : Nat) (a_this_line : Nat) (a_this_aside : Nat) (a_this_read : Nat) (a_this_fewest : Nat) (thrown : Int32) (z : Nat → Int32) (saves : Int32) (saved : Nat → Int32) (length : Int32) (text : Nat → Int32) (many : Int32) (line : Nat → Int32) (aside : Nat → Int32) (isWord : Int32) (entries : Int32) (rdA : Nat → Int32) (fewest : Nat → Int32) (h : Int64) (P : Int32 → Int32 → (Nat → Int32) → Int32 → Prop) (hw : wX12_undo saved P thrown z saves) : Ki3 l g yX12_undo wsX12_undo 0 0 0 0 [.ref a_this] (gX12 g a_this a_this_z a_this_saved a_this_text a_this_line a_this_aside a_this_read a_this_fewest thrown z saves saved length text many line aside isWord entries rdA fewest h) P (fun thrown z saves => (gX12 g a_this a_this_z a_this_saved a_this_text a_this_line a_this_aside a_this_read a_this_fewest thrown z saves saved length text many line aside isWord entries rdA fewest h)) := by
  refine Ki3.mk (cc := cX12_undo) (nL := 2) (ty := .int) (by decide +kernel) rfl (Nat.le_of_ble_eq_true rfl) ?_
  intro p e s m below meth c A Q ls F hl V ret
  have hx := F.x
  have hb := F.b
  have hl : lv_has ls 2 [(0, .ref a_this)] := hl
  have B37 :  ∀ (n : Nat), ∀ {H : Heap} {locs : List Loc} {ls : Array Slot} (v1 : Int32) (thrown : Int32) (z : Nat → Int32) (saves : Int32) (V : VW g A s.heap H locs (gX12 g a_this a_this_z a_this_saved a_this_text a_this_line a_this_aside a_this_read a_this_fewest thrown z saves saved length text many line aside isWord entries rdA fewest h)) (hl : lv_has ls 2 [(0, .ref a_this), (1, .int v1)]) (hw : wX12_undo_37 saved P n v1 thrown z saves), W p l e (kR 0 0 0 0) s m ([.ref a_this] : List Value).toArray below meth c H locs 0 0 Q (F0 m 37 ls []) := by
    intro n
    induction n with
    | zero => intro _ _ _ _ _ _ _ V hl hw; exact hw.elim
    | succ n ih =>
      intro H locs ls v1 thrown z saves V hl hw
      refine lv_iload_n hx hb dX12_undo_37 rfl (lv_at hl 1 rfl) ?_
      refine lv_sipush (v := 1317) hx hb dX12_undo_38 (by decide) ?_
      refine lv_icmp_ge (tgt := 71) hx hb dX12_undo_41 (by decide) (fun c_41 => ?_) (fun c_41 => ?_)
      · have hw := hw.1 c_41
        refine lv_aload_n hx hb dX12_undo_71 rfl (lv_at hl 0 rfl) ?_
        refine kget F V 8 2 0 rfl rfl iX12_undo_X12 fX12_undo_80 (by decide) rfl rfl dX12_undo_72 ?_
        exact ret _ _ _ _ _ _ _ _ rfl dX12_undo_75 V hw
      · have hw := hw.2 c_41
        refine lv_aload_n hx hb dX12_undo_44 rfl (lv_at hl 0 rfl) ?_
        refine kget F V 8 1 0 rfl rfl iX12_undo_X12 fX12_undo_7 (by decide) rfl rfl dX12_undo_45 ?_
        refine lv_iload_n hx hb dX12_undo_48 rfl (lv_at hl 1 rfl) ?_
        refine lv_aload_n hx hb dX12_undo_49 rfl (lv_at hl 0 rfl) ?_
        refine kget F V 8 3 0 rfl rfl iX12_undo_X12 fX12_undo_13 (by decide) rfl rfl dX12_undo_50 ?_
        refine lv_sipush (v := 1317) hx hb dX12_undo_53 (by decide) ?_
        refine lv_aload_n hx hb dX12_undo_56 rfl (lv_at hl 0 rfl) ?_
        refine kget F V 8 2 0 rfl rfl iX12_undo_X12 fX12_undo_80 (by decide) rfl rfl dX12_undo_57 ?_
        refine lv_imul hx hb dX12_undo_60 ?_
        refine lv_iload_n hx hb dX12_undo_61 rfl (lv_at hl 1 rfl) ?_
        refine lv_iadd hx hb dX12_undo_62 ?_
        refine kiald F V 2 rfl hw.1 dX12_undo_63 ?_
        have hw := hw.2
        refine kiast F V 1 rfl hw.1 dX12_undo_64 (fun z_64 ez_64 H locs V => ?_)
        have hw := hw.2 z_64 ez_64
        have V : VW g A s.heap H locs (gX12 g a_this a_this_z a_this_saved a_this_text a_this_line a_this_aside a_this_read a_this_fewest thrown z_64 saves saved length text many line aside isWord entries rdA fewest h) := V
        refine lv_iinc (v := v1 + 1) (lv' := [(1, .int (v1 + 1)), (0, .ref a_this)]) hx hb dX12_undo_65 hl (k := 1) rfl rfl (by decide) rfl (fun ls hl => ?_)
        refine lv_goto (tgt := 37) hx hb dX12_undo_68 (by decide) ?_
        exact ih (v1 + 1) thrown z_64 saves V (lv_sub hl [1, 0] rfl) hw
  have B13 :  ∀ {H : Heap} {locs : List Loc} {ls : Array Slot} (s1 : Int32) (thrown : Int32) (z : Nat → Int32) (saves : Int32) (V : VW g A s.heap H locs (gX12 g a_this a_this_z a_this_saved a_this_text a_this_line a_this_aside a_this_read a_this_fewest thrown z saves saved length text many line aside isWord entries rdA fewest h)) (hl : lv_has ls 2 [(0, .ref a_this)]) (hw : wX12_undo_13 saved P s1 thrown z saves), W p l e (kR 0 0 0 0) s m ([.ref a_this] : List Value).toArray below meth c H locs 0 0 Q (F0 m 13 ls [.int s1, .ref a_this]) := by
    intro  H locs ls s1 thrown z saves V hl hw
    refine kput F V 8 0 0 tyX12_ok nmX12 rfl rfl iX12_undo_X12 fX12_undo_31 (by decide) rfl rfl rfl rfl (Nat.le_of_ble_eq_true rfl) dX12_undo_13 (fun H locs V => ?_)
    have V : VW g A s.heap H locs (gX12 g a_this a_this_z a_this_saved a_this_text a_this_line a_this_aside a_this_read a_this_fewest s1 z saves saved length text many line aside isWord entries rdA fewest h) := V
    refine lv_aload_n hx hb dX12_undo_16 rfl (lv_at hl 0 rfl) ?_
    refine kget F V 8 0 0 rfl rfl iX12_undo_X12 fX12_undo_31 (by decide) rfl rfl dX12_undo_17 ?_
    refine lv_if_le (tgt := 25) hx hb dX12_undo_20 (by decide) (fun c_20 => ?_) (fun c_20 => ?_)
    · have hw := hw.1 c_20
      refine lv_aload_n hx hb dX12_undo_25 rfl (lv_at hl 0 rfl) ?_
      refine lv_dup hx hb dX12_undo_26 rfl ?_
      refine kget F V 8 2 0 rfl rfl iX12_undo_X12 fX12_undo_80 (by decide) rfl rfl dX12_undo_27 ?_
      refine lv_iconst (v := 1) hx hb dX12_undo_30 (by decide) ?_
      refine lv_isub hx hb dX12_undo_31 ?_
      refine lv_topi (fun saves_32 esaves_32 => ?_)
      have hw := hw saves_32 esaves_32
      refine kput F V 8 2 0 tyX12_ok nmX12 rfl rfl iX12_undo_X12 fX12_undo_80 (by decide) rfl rfl rfl rfl (Nat.le_of_ble_eq_true rfl) dX12_undo_32 (fun H locs V => ?_)
      have V : VW g A s.heap H locs (gX12 g a_this a_this_z a_this_saved a_this_text a_this_line a_this_aside a_this_read a_this_fewest s1 z saves_32 saved length text many line aside isWord entries rdA fewest h) := V
      refine lv_iconst (v := 0) hx hb dX12_undo_35 (by decide) ?_
      refine lv_istore_n (lv' := [(1, .int 0), (0, .ref a_this)]) hx hb dX12_undo_36 rfl hl (by decide) rfl (fun ls hl => ?_)
      obtain ⟨n_37, hw⟩ := hw
      exact B37  n_37 0 s1 z saves_32 V (lv_sub hl [1, 0] rfl) hw
    · have hw := hw.2 c_20
      refine lv_iconst (v := 0) hx hb dX12_undo_23 (by decide) ?_
      exact ret _ _ _ _ _ _ _ _ rfl dX12_undo_24 V hw
  refine lv_aload_n hx hb dX12_undo_0 rfl (lv_at hl 0 rfl) ?_
  refine lv_aload_n hx hb dX12_undo_1 rfl (lv_at hl 0 rfl) ?_
  refine kget F V 8 2 0 rfl rfl iX12_undo_X12 fX12_undo_80 (by decide) rfl rfl dX12_undo_2 ?_
  refine lv_if_le (tgt := 12) hx hb dX12_undo_5 (by decide) (fun c_5 => ?_) (fun c_5 => ?_)
  · have hw := hw.1 c_5
    refine lv_iconst (v := 1) hx hb dX12_undo_12 (by decide) ?_
    exact B13  1 thrown z saves V hl hw
  · have hw := hw.2 c_5
    refine lv_iconst (v := 0) hx hb dX12_undo_8 (by decide) ?_
    refine lv_goto (tgt := 13) hx hb dX12_undo_9 (by decide) ?_
    exact B13  0 thrown z saves V hl hw
theorem hdX12_keepAside : yX12_keepAside.cls = RX12 ∧ yX12_keepAside.cls ≠ "java/lang/invoke/MethodHandle" ∧ yX12_keepAside.cls ≠ "java/lang/invoke/VarHandle" ∧ (parseMethodDescriptor yX12_keepAside.desc).map (fun d => d.parameters.length) = some 0 := by decide +kernel
theorem fX12_keepAside_22 : Cond.fieldLink RX12 22 RX12 "aside" "[I" ∈ wsX12_keepAside := by decide +kernel
theorem iX12_keepAside_X12 : ∀ w ∈ u_ws RX12 TX12 14, w ∈ wsX12_keepAside := by decide +kernel
theorem fX12_keepAside_7 : Cond.fieldLink RX12 7 RX12 "z" "[I" ∈ wsX12_keepAside := by decide +kernel
def wX12_keepAside_2 (z : Nat → Int32) (P : (Nat → Int32) → Prop) : Nat → Int32 → (Nat → Int32) → Prop
  | 0, _, _ => False
  | n + 1, v1, aside => (1317 ≤ v1 → P aside) ∧ (¬ (1317 ≤ v1) → vp_in v1 1317 ∧ vp_in v1 1317 ∧ ∀ aside_20 : Nat → Int32, aside_20 = upd aside v1.toNatClampNeg (z v1.toNatClampNeg) → (wX12_keepAside_2 z P n) (v1 + 1) aside_20)
def wX12_keepAside (z : Nat → Int32) (P : (Nat → Int32) → Prop) (aside : Nat → Int32) : Prop := ∃ n_2, wX12_keepAside_2 z P n_2 0 aside
set_option maxHeartbeats 4000000 in
set_option maxRecDepth 100000 in
theorem kX12_keepAside (l : Launch) (g : kT) (a_this : Nat) (a_this_z : Nat) (a_this_saved : Nat) (a_this_text : Nat) (a_this_line : Nat) (a_this_aside : Nat) (a_this_read : Nat) (a_this_fewest : Nat) (thrown : Int32) (z : Nat → Int32) (saves : Int32) (saved : Nat → Int32) (length : Int32) (text : Nat → Int32) (many : Int32) (line : Nat → Int32) (aside : Nat → Int32) (isWord : Int32) (entries : Int32) (rdA : Nat → Int32) (fewest : Nat → Int32) (h : Int64) (P : (Nat → Int32) → Prop) (hw : wX12_keepAside z P aside) : Kv1 l g yX12_keepAside wsX12_keepAside 0 0 0 0 [.ref a_this] (gX12 g a_this a_this_z a_this_saved a_this_text a_this_line a_this_aside a_this_read a_this_fewest thrown z saves saved length text many line aside isWord entries rdA fewest h) P (fun aside => (gX12 g a_this a_this_z a_this_saved a_this_text a_this_line a_this_aside a_this_read a_this_fewest thrown z saves saved length text many line aside isWord entries rdA fewest h)) := by
  refine Kv1.mk (cc := cX12_keepAside) (nL := 2) (by decide +kernel) rfl (Nat.le_of_ble_eq_true rfl) ?_
  intro p e s m below meth c A Q ls F hl V ret _
  have hx := F.x
  have hb := F.b
  have hl : lv_has ls 2 [(0, .ref a_this)] := hl
  have B2 :  ∀ (n : Nat), ∀ {H : Heap} {locs : List Loc} {ls : Array Slot} (v1 : Int32) (aside : Nat → Int32) (V : VW g A s.heap H locs (gX12 g a_this a_this_z a_this_saved a_this_text a_this_line a_this_aside a_this_read a_this_fewest thrown z saves saved length text many line aside isWord entries rdA fewest h)) (hl : lv_has ls 2 [(0, .ref a_this), (1, .int v1)]) (hw : wX12_keepAside_2 z P n v1 aside), W p l e (kR 0 0 0 0) s m ([.ref a_this] : List Value).toArray below meth c H locs 0 0 Q (F0 m 2 ls []) := by
    intro n
    induction n with
    | zero => intro _ _ _ _ _ V hl hw; exact hw.elim
    | succ n ih =>
      intro H locs ls v1 aside V hl hw
      refine lv_iload_n hx hb dX12_keepAside_2 rfl (lv_at hl 1 rfl) ?_
      refine lv_sipush (v := 1317) hx hb dX12_keepAside_3 (by decide) ?_
      refine lv_icmp_ge (tgt := 27) hx hb dX12_keepAside_6 (by decide) (fun c_6 => ?_) (fun c_6 => ?_)
      · have hw := hw.1 c_6
        exact ret _ _ _ _ _ dX12_keepAside_27 V hw
      · have hw := hw.2 c_6
        refine lv_aload_n hx hb dX12_keepAside_9 rfl (lv_at hl 0 rfl) ?_
        refine kget F V 8 8 0 rfl rfl iX12_keepAside_X12 fX12_keepAside_22 (by decide) rfl rfl dX12_keepAside_10 ?_
        refine lv_iload_n hx hb dX12_keepAside_13 rfl (lv_at hl 1 rfl) ?_
        refine lv_aload_n hx hb dX12_keepAside_14 rfl (lv_at hl 0 rfl) ?_
        refine kget F V 8 1 0 rfl rfl iX12_keepAside_X12 fX12_keepAside_7 (by decide) rfl rfl dX12_keepAside_15 ?_
        refine lv_iload_n hx hb dX12_keepAside_18 rfl (lv_at hl 1 rfl) ?_
        refine kiald F V 1 rfl hw.1 dX12_keepAside_19 ?_
        have hw := hw.2
        refine kiast F V 5 rfl hw.1 dX12_keepAside_20 (fun aside_20 easide_20 H locs V => ?_)
        have hw := hw.2 aside_20 easide_20
        have V : VW g A s.heap H locs (gX12 g a_this a_this_z a_this_saved a_this_text a_this_line a_this_aside a_this_read a_this_fewest thrown z saves saved length text many line aside_20 isWord entries rdA fewest h) := V
        refine lv_iinc (v := v1 + 1) (lv' := [(1, .int (v1 + 1)), (0, .ref a_this)]) hx hb dX12_keepAside_21 hl (k := 1) rfl rfl (by decide) rfl (fun ls hl => ?_)
        refine lv_goto (tgt := 2) hx hb dX12_keepAside_24 (by decide) ?_
        exact ih (v1 + 1) aside_20 V (lv_sub hl [1, 0] rfl) hw
  refine lv_iconst (v := 0) hx hb dX12_keepAside_0 (by decide) ?_
  refine lv_istore_n (lv' := [(1, .int 0), (0, .ref a_this)]) hx hb dX12_keepAside_1 rfl hl (by decide) rfl (fun ls hl => ?_)
  obtain ⟨n_2, hw⟩ := hw
  exact B2  n_2 0 aside V (lv_sub hl [1, 0] rfl) hw
theorem hdX12_takeAside : yX12_takeAside.cls = RX12 ∧ yX12_takeAside.cls ≠ "java/lang/invoke/MethodHandle" ∧ yX12_takeAside.cls ≠ "java/lang/invoke/VarHandle" ∧ (parseMethodDescriptor yX12_takeAside.desc).map (fun d => d.parameters.length) = some 0 := by decide +kernel
theorem fX12_takeAside_7 : Cond.fieldLink RX12 7 RX12 "z" "[I" ∈ wsX12_takeAside := by decide +kernel
theorem iX12_takeAside_X12 : ∀ w ∈ u_ws RX12 TX12 14, w ∈ wsX12_takeAside := by decide +kernel
theorem fX12_takeAside_22 : Cond.fieldLink RX12 22 RX12 "aside" "[I" ∈ wsX12_takeAside := by decide +kernel
def wX12_takeAside_2 (aside : Nat → Int32) (P : (Nat → Int32) → Prop) : Nat → Int32 → (Nat → Int32) → Prop
  | 0, _, _ => False
  | n + 1, v1, z => (1317 ≤ v1 → P z) ∧ (¬ (1317 ≤ v1) → vp_in v1 1317 ∧ vp_in v1 1317 ∧ ∀ z_20 : Nat → Int32, z_20 = upd z v1.toNatClampNeg (aside v1.toNatClampNeg) → (wX12_takeAside_2 aside P n) (v1 + 1) z_20)
def wX12_takeAside (aside : Nat → Int32) (P : (Nat → Int32) → Prop) (z : Nat → Int32) : Prop := ∃ n_2, wX12_takeAside_2 aside P n_2 0 z
set_option maxHeartbeats 4000000 in
set_option maxRecDepth 100000 in
theorem kX12_takeAside (l : Launch) (g : kT) (a_this : Nat) (a_this_z : Nat) (a_this_saved : Nat) (a_this_text : Nat) (a_this_line : Nat) (a_this_aside : Nat) (a_this_read : Nat) (a_this_fewest : Nat) (thrown : Int32) (z : Nat → Int32) (saves : Int32) (saved : Nat → Int32) (length : Int32) (text : Nat → Int32) (many : Int32) (line : Nat → Int32) (aside : Nat → Int32) (isWord : Int32) (entries : Int32) (rdA : Nat → Int32) (fewest : Nat → Int32) (h : Int64) (P : (Nat → Int32) → Prop) (hw : wX12_takeAside aside P z) : Kv1 l g yX12_takeAside wsX12_takeAside 0 0 0 0 [.ref a_this] (gX12 g a_this a_this_z a_this_saved a_this_text a_this_line a_this_aside a_this_read a_this_fewest thrown z saves saved length text many line aside isWord entries rdA fewest h) P (fun z => (gX12 g a_this a_this_z a_this_saved a_this_text a_this_line a_this_aside a_this_read a_this_fewest thrown z saves saved length text many line aside isWord entries rdA fewest h)) := by
  refine Kv1.mk (cc := cX12_takeAside) (nL := 2) (by decide +kernel) rfl (Nat.le_of_ble_eq_true rfl) ?_
  intro p e s m below meth c A Q ls F hl V ret _
  have hx := F.x
  have hb := F.b
  have hl : lv_has ls 2 [(0, .ref a_this)] := hl
  have B2 :  ∀ (n : Nat), ∀ {H : Heap} {locs : List Loc} {ls : Array Slot} (v1 : Int32) (z : Nat → Int32) (V : VW g A s.heap H locs (gX12 g a_this a_this_z a_this_saved a_this_text a_this_line a_this_aside a_this_read a_this_fewest thrown z saves saved length text many line aside isWord entries rdA fewest h)) (hl : lv_has ls 2 [(0, .ref a_this), (1, .int v1)]) (hw : wX12_takeAside_2 aside P n v1 z), W p l e (kR 0 0 0 0) s m ([.ref a_this] : List Value).toArray below meth c H locs 0 0 Q (F0 m 2 ls []) := by
    intro n
    induction n with
    | zero => intro _ _ _ _ _ V hl hw; exact hw.elim
    | succ n ih =>
      intro H locs ls v1 z V hl hw
      refine lv_iload_n hx hb dX12_takeAside_2 rfl (lv_at hl 1 rfl) ?_
      refine lv_sipush (v := 1317) hx hb dX12_takeAside_3 (by decide) ?_
      refine lv_icmp_ge (tgt := 27) hx hb dX12_takeAside_6 (by decide) (fun c_6 => ?_) (fun c_6 => ?_)
      · have hw := hw.1 c_6
        exact ret _ _ _ _ _ dX12_takeAside_27 V hw
      · have hw := hw.2 c_6
        refine lv_aload_n hx hb dX12_takeAside_9 rfl (lv_at hl 0 rfl) ?_
        refine kget F V 8 1 0 rfl rfl iX12_takeAside_X12 fX12_takeAside_7 (by decide) rfl rfl dX12_takeAside_10 ?_
        refine lv_iload_n hx hb dX12_takeAside_13 rfl (lv_at hl 1 rfl) ?_
        refine lv_aload_n hx hb dX12_takeAside_14 rfl (lv_at hl 0 rfl) ?_
        refine kget F V 8 8 0 rfl rfl iX12_takeAside_X12 fX12_takeAside_22 (by decide) rfl rfl dX12_takeAside_15 ?_
        refine lv_iload_n hx hb dX12_takeAside_18 rfl (lv_at hl 1 rfl) ?_
        refine kiald F V 5 rfl hw.1 dX12_takeAside_19 ?_
        have hw := hw.2
        refine kiast F V 1 rfl hw.1 dX12_takeAside_20 (fun z_20 ez_20 H locs V => ?_)
        have hw := hw.2 z_20 ez_20
        have V : VW g A s.heap H locs (gX12 g a_this a_this_z a_this_saved a_this_text a_this_line a_this_aside a_this_read a_this_fewest thrown z_20 saves saved length text many line aside isWord entries rdA fewest h) := V
        refine lv_iinc (v := v1 + 1) (lv' := [(1, .int (v1 + 1)), (0, .ref a_this)]) hx hb dX12_takeAside_21 hl (k := 1) rfl rfl (by decide) rfl (fun ls hl => ?_)
        refine lv_goto (tgt := 2) hx hb dX12_takeAside_24 (by decide) ?_
        exact ih (v1 + 1) z_20 V (lv_sub hl [1, 0] rfl) hw
  refine lv_iconst (v := 0) hx hb dX12_takeAside_0 (by decide) ?_
  refine lv_istore_n (lv' := [(1, .int 0), (0, .ref a_this)]) hx hb dX12_takeAside_1 rfl hl (by decide) rfl (fun ls hl => ?_)
  obtain ⟨n_2, hw⟩ := hw
  exact B2  n_2 0 z V (lv_sub hl [1, 0] rfl) hw
