theorem hdX11_clearBuffer : yX11_clearBuffer.cls = RX11 ∧ yX11_clearBuffer.cls ≠ "java/lang/invoke/MethodHandle" ∧ yX11_clearBuffer.cls ≠ "java/lang/invoke/VarHandle" ∧ (parseMethodDescriptor yX11_clearBuffer.desc).map (fun d => d.parameters.length) = some 0 := by decide +kernel
theorem fX11_clearBuffer_29 : Cond.fieldLink RX11 29 RX11 "buffer" "LChordDesk$Buffer;" ∈ wsX11_clearBuffer := by decide +kernel
theorem iX11_clearBuffer_X11 : ∀ w ∈ u_ws RX11 TX11 6, w ∈ wsX11_clearBuffer := by decide +kernel
theorem fX11_clearBuffer_181 : Cond.fieldLink RX11 181 RX0 "length" "I" ∈ wsX11_clearBuffer := by decide +kernel
theorem iX11_clearBuffer_X0 : ∀ w ∈ u_ws RX0 TX0 2, w ∈ wsX11_clearBuffer := by decide +kernel
def wX11_clearBuffer (P : Int32 → Int32 → Prop) (buffer_length : Int32) : Prop := P buffer_length 0
set_option maxHeartbeats 4000000 in
set_option maxRecDepth 100000 in
theorem kX11_clearBuffer (l : Launch) (g : kT) (a_this a_this_now a_this_trial a_this_history a_this_buffer a_this_reader a_this_writing a_this_buffer_codes : Nat) (buffer_codes : Nat → Int32) (buffer_length : Int32) (P : Int32 → Int32 → Prop) (hw : wX11_clearBuffer P buffer_length) : Ki1 l g yX11_clearBuffer wsX11_clearBuffer 0 0 0 0 [.ref a_this] (gX11 g a_this a_this_now a_this_trial a_this_history a_this_buffer a_this_reader a_this_writing ++ (gX0 g a_this_buffer a_this_buffer_codes buffer_codes buffer_length)) P (fun buffer_length => (gX11 g a_this a_this_now a_this_trial a_this_history a_this_buffer a_this_reader a_this_writing ++ (gX0 g a_this_buffer a_this_buffer_codes buffer_codes buffer_length))) := by
  refine Ki1.mk (cc := cX11_clearBuffer) (nL := 2) (ty := .int) (by decide +kernel) rfl (Nat.le_of_ble_eq_true rfl) ?_
  intro p e s m below meth c A Q ls F hl V ret
  have hx := F.x
  have hb := F.b
  have hl : lv_has ls 2 [(0, .ref a_this)] := hl
  refine lv_aload_n hx hb dX11_clearBuffer_0 rfl (lv_at hl 0 rfl) ?_
  refine kget F V 7 3 0 rfl rfl iX11_clearBuffer_X11 fX11_clearBuffer_29 (by decide) rfl rfl dX11_clearBuffer_1 ?_
  refine kget F V 0 1 1 rfl rfl iX11_clearBuffer_X0 fX11_clearBuffer_181 (by decide) rfl rfl dX11_clearBuffer_4 ?_
  refine lv_istore_n (lv' := [(1, .int buffer_length), (0, .ref a_this)]) hx hb dX11_clearBuffer_7 rfl hl (by decide) rfl (fun ls hl => ?_)
  refine lv_aload_n hx hb dX11_clearBuffer_8 rfl (lv_at hl 1 rfl) ?_
  refine kget F V 7 3 0 rfl rfl iX11_clearBuffer_X11 fX11_clearBuffer_29 (by decide) rfl rfl dX11_clearBuffer_9 ?_
  refine lv_iconst (v := 0) hx hb dX11_clearBuffer_12 (by decide) ?_
  refine kput F V 0 1 1 tyX0_ok nmX0 rfl rfl iX11_clearBuffer_X0 fX11_clearBuffer_181 (by decide) rfl rfl rfl rfl (Nat.le_of_ble_eq_true rfl) dX11_clearBuffer_13 (fun H locs V => ?_)
  have V : VW g A s.heap H locs (gX11 g a_this a_this_now a_this_trial a_this_history a_this_buffer a_this_reader a_this_writing ++ (gX0 g a_this_buffer a_this_buffer_codes buffer_codes 0)) := V
  refine lv_iload_n hx hb dX11_clearBuffer_16 rfl (lv_at hl 0 rfl) ?_
  exact ret _ _ _ _ _ _ rfl dX11_clearBuffer_17 V hw
theorem hdX4_restart : yX4_restart.cls = RX4 ∧ yX4_restart.cls ≠ "java/lang/invoke/MethodHandle" ∧ yX4_restart.cls ≠ "java/lang/invoke/VarHandle" ∧ (parseMethodDescriptor yX4_restart.desc).map (fun d => d.parameters.length) = some 0 := by decide +kernel
theorem fX4_restart_9 : Cond.fieldLink RX4 9 RX4 "outline" "J" ∈ wsX4_restart := by decide +kernel
theorem iX4_restart_X4 : ∀ w ∈ u_ws RX4 TX4 6, w ∈ wsX4_restart := by decide +kernel
theorem fX4_restart_15 : Cond.fieldLink RX4 15 RX4 "strokes" "I" ∈ wsX4_restart := by decide +kernel
theorem fX4_restart_19 : Cond.fieldLink RX4 19 RX4 "keys" "I" ∈ wsX4_restart := by decide +kernel
theorem fX4_restart_22 : Cond.fieldLink RX4 22 RX4 "inWord" "Z" ∈ wsX4_restart := by decide +kernel
theorem fX4_restart_26 : Cond.fieldLink RX4 26 RX4 "word" "J" ∈ wsX4_restart := by decide +kernel
theorem fX4_restart_29 : Cond.fieldLink RX4 29 RX4 "letters" "I" ∈ wsX4_restart := by decide +kernel
def wX4_restart (P : Int64 → Int32 → Int32 → Int32 → Int64 → Int32 → Prop) (outline : Int64) (strokes : Int32) (keys : Int32) (inWord : Int32) (word : Int64) (letters : Int32) : Prop := P 0 0 0 0 0 0
set_option maxHeartbeats 4000000 in
set_option maxRecDepth 100000 in
theorem kX4_restart (l : Launch) (g : kT) (a_this : Nat) (outline : Int64) (strokes : Int32) (keys : Int32) (inWord : Int32) (word : Int64) (letters : Int32) (P : Int64 → Int32 → Int32 → Int32 → Int64 → Int32 → Prop) (hw : wX4_restart P outline strokes keys inWord word letters) : Kv6 l g yX4_restart wsX4_restart 0 0 0 0 [.ref a_this] (gX4 g a_this outline strokes keys inWord word letters) P (fun outline strokes keys inWord word letters => (gX4 g a_this outline strokes keys inWord word letters)) := by
  refine Kv6.mk (cc := cX4_restart) (nL := 1) (by decide +kernel) rfl (Nat.le_of_ble_eq_true rfl) ?_
  intro p e s m below meth c A Q ls F hl V ret _
  have hx := F.x
  have hb := F.b
  have hl : lv_has ls 1 [(0, .ref a_this)] := hl
  refine lv_aload_n hx hb dX4_restart_0 rfl (lv_at hl 0 rfl) ?_
  refine lv_lconst (v := 0) hx hb dX4_restart_1 (by decide) ?_
  refine kput F V 3 0 0 tyX4_ok nmX4 rfl rfl iX4_restart_X4 fX4_restart_9 (by decide) rfl rfl rfl rfl (Nat.le_of_ble_eq_true rfl) dX4_restart_2 (fun H locs V => ?_)
  have V : VW g A s.heap H locs (gX4 g a_this 0 strokes keys inWord word letters) := V
  refine lv_aload_n hx hb dX4_restart_5 rfl (lv_at hl 0 rfl) ?_
  refine lv_iconst (v := 0) hx hb dX4_restart_6 (by decide) ?_
  refine kput F V 3 1 0 tyX4_ok nmX4 rfl rfl iX4_restart_X4 fX4_restart_15 (by decide) rfl rfl rfl rfl (Nat.le_of_ble_eq_true rfl) dX4_restart_7 (fun H locs V => ?_)
  have V : VW g A s.heap H locs (gX4 g a_this 0 0 keys inWord word letters) := V
  refine lv_aload_n hx hb dX4_restart_10 rfl (lv_at hl 0 rfl) ?_
  refine lv_iconst (v := 0) hx hb dX4_restart_11 (by decide) ?_
  refine kput F V 3 2 0 tyX4_ok nmX4 rfl rfl iX4_restart_X4 fX4_restart_19 (by decide) rfl rfl rfl rfl (Nat.le_of_ble_eq_true rfl) dX4_restart_12 (fun H locs V => ?_)
  have V : VW g A s.heap H locs (gX4 g a_this 0 0 0 inWord word letters) := V
  refine lv_aload_n hx hb dX4_restart_15 rfl (lv_at hl 0 rfl) ?_
  refine lv_iconst (v := 0) hx hb dX4_restart_16 (by decide) ?_
  refine kput F V 3 3 0 tyX4_ok nmX4 rfl rfl iX4_restart_X4 fX4_restart_22 (by decide) rfl rfl rfl rfl (Nat.le_of_ble_eq_true rfl) dX4_restart_17 (fun H locs V => ?_)
  have V : VW g A s.heap H locs (gX4 g a_this 0 0 0 0 word letters) := V
  refine lv_aload_n hx hb dX4_restart_20 rfl (lv_at hl 0 rfl) ?_
  refine lv_lconst (v := 0) hx hb dX4_restart_21 (by decide) ?_
  refine kput F V 3 4 0 tyX4_ok nmX4 rfl rfl iX4_restart_X4 fX4_restart_26 (by decide) rfl rfl rfl rfl (Nat.le_of_ble_eq_true rfl) dX4_restart_22 (fun H locs V => ?_)
  have V : VW g A s.heap H locs (gX4 g a_this 0 0 0 0 0 letters) := V
  refine lv_aload_n hx hb dX4_restart_25 rfl (lv_at hl 0 rfl) ?_
  refine lv_iconst (v := 0) hx hb dX4_restart_26 (by decide) ?_
  refine kput F V 3 5 0 tyX4_ok nmX4 rfl rfl iX4_restart_X4 fX4_restart_29 (by decide) rfl rfl rfl rfl (Nat.le_of_ble_eq_true rfl) dX4_restart_27 (fun H locs V => ?_)
  have V : VW g A s.heap H locs (gX4 g a_this 0 0 0 0 0 0) := V
  exact ret _ _ _ _ _ _ _ _ _ _ dX4_restart_30 V hw
theorem hdX6_at : yX6_at.cls ≠ "java/lang/invoke/MethodHandle" ∧ yX6_at.cls ≠ "java/lang/invoke/VarHandle" ∧ (parseMethodDescriptor yX6_at.desc).map (fun d => d.parameters.length) = some 2 := by decide +kernel
def wX6_at (p1_n : Nat) (p1 : Nat → Int32) (p2 : Int32) (P : Int32 → Prop) : Prop := (p2 < 0 → P 0) ∧ (¬ (p2 < 0) → ((nI p1_n) ≤ p2 → P 0) ∧ (¬ ((nI p1_n) ≤ p2) → vp_in p2 p1_n ∧ P (p1 p2.toNatClampNeg)))
set_option maxHeartbeats 4000000 in
set_option maxRecDepth 100000 in
theorem kX6_at (l : Launch) (g : kT) (a_p1 : Nat) (p1_n : Nat) (p1 : Nat → Int32) (p2 : Int32) (P : Int32 → Prop) (hw : wX6_at p1_n p1 p2 P) : Ki0 l g yX6_at wsX6_at 0 0 0 0 [.ref a_p1, .int p2] (gAI g a_p1 p1_n p1) P (gAI g a_p1 p1_n p1) := by
  refine Ki0.mk (cc := cX6_at) (nL := 2) (ty := .int) (by decide +kernel) rfl (Nat.le_of_ble_eq_true rfl) ?_
  intro p e s m below meth c A Q ls F hl V ret
  have hx := F.x
  have hb := F.b
  have hl : lv_has ls 2 [(0, .ref a_p1), (1, .int p2)] := hl
  refine lv_iload_n hx hb dX6_at_0 rfl (lv_at hl 1 rfl) ?_
  refine lv_if_lt (tgt := 16) hx hb dX6_at_1 (by decide) (fun c_1 => ?_) (fun c_1 => ?_)
  · have hw := hw.1 c_1
    refine lv_iconst (v := 0) hx hb dX6_at_16 (by decide) ?_
    exact ret _ _ _ _ _ rfl dX6_at_17 V hw
  · have hw := hw.2 c_1
    refine lv_iload_n hx hb dX6_at_4 rfl (lv_at hl 1 rfl) ?_
    refine lv_aload_n hx hb dX6_at_5 rfl (lv_at hl 0 rfl) ?_
    refine kialen F V 0 rfl dX6_at_6 ?_
    refine lv_icmp_ge (tgt := 16) hx hb dX6_at_7 (by decide) (fun c_7 => ?_) (fun c_7 => ?_)
    · have hw := hw.1 c_7
      refine lv_iconst (v := 0) hx hb dX6_at_16 (by decide) ?_
      exact ret _ _ _ _ _ rfl dX6_at_17 V hw
    · have hw := hw.2 c_7
      refine lv_aload_n hx hb dX6_at_10 rfl (lv_at hl 0 rfl) ?_
      refine lv_iload_n hx hb dX6_at_11 rfl (lv_at hl 1 rfl) ?_
      refine kiald F V 0 rfl hw.1 dX6_at_12 ?_
      have hw := hw.2
      refine lv_goto (tgt := 17) hx hb dX6_at_13 (by decide) ?_
      exact ret _ _ _ _ _ rfl dX6_at_17 V hw
theorem hdX9_with : yX9_with.cls ≠ "java/lang/invoke/MethodHandle" ∧ yX9_with.cls ≠ "java/lang/invoke/VarHandle" ∧ (parseMethodDescriptor yX9_with.desc).map (fun d => d.parameters.length) = some 3 := by decide +kernel
def wX9_with (p1 : Int64) (p2 : Int32) (p3 : Int32) (P : Int64 → Prop) : Prop := P (p1 ||| ((p3.toInt64) <<< ((p2 * 8).toInt64 &&& 63)))
set_option maxHeartbeats 4000000 in
set_option maxRecDepth 100000 in
theorem kX9_with (l : Launch) (g : kT) (p1 : Int64) (p2 : Int32) (p3 : Int32) (P : Int64 → Prop) (hw : wX9_with p1 p2 p3 P) : Kl0 l g yX9_with wsX9_with 0 0 0 0 [.long p1, .int p2, .int p3] [] P [] := by
  refine Kl0.mk (cc := cX9_with) (nL := 4) (by decide +kernel) rfl (Nat.le_of_ble_eq_true rfl) ?_
  intro p e s m below meth c A Q ls F hl V ret
  have hx := F.x
  have hb := F.b
  have hl : lv_has ls 4 [(0, .long p1), (2, .int p2), (3, .int p3)] := hl
  refine lv_lload_n hx hb dX9_with_0 rfl (lv_at hl 0 rfl) ?_
  refine lv_iload_n hx hb dX9_with_1 rfl (lv_at hl 2 rfl) ?_
  refine lv_i2l hx hb dX9_with_2 rfl ?_
  refine lv_iload_n hx hb dX9_with_3 rfl (lv_at hl 1 rfl) ?_
  refine lv_bipush (v := 8) hx hb dX9_with_4 (by decide) ?_
  refine lv_imul hx hb dX9_with_6 ?_
  refine lv_lshl hx hb dX9_with_7 rfl ?_
  refine lv_lor hx hb dX9_with_8 ?_
  exact ret _ _ _ _ _ dX9_with_9 V hw
theorem hdX4_readsInWord : yX4_readsInWord.cls = RX4 ∧ yX4_readsInWord.cls ≠ "java/lang/invoke/MethodHandle" ∧ yX4_readsInWord.cls ≠ "java/lang/invoke/VarHandle" ∧ (parseMethodDescriptor yX4_readsInWord.desc).map (fun d => d.parameters.length) = some 1 := by decide +kernel
theorem fX4_readsInWord_29 : Cond.fieldLink RX4 29 RX4 "letters" "I" ∈ wsX4_readsInWord := by decide +kernel
theorem iX4_readsInWord_X4 : ∀ w ∈ u_ws RX4 TX4 6, w ∈ wsX4_readsInWord := by decide +kernel
theorem fX4_readsInWord_26 : Cond.fieldLink RX4 26 RX4 "word" "J" ∈ wsX4_readsInWord := by decide +kernel
def wX4_readsInWord_49 (p1 : Int32) (P : Int32 → Int64 → Int32 → Int32 → Int32 → Int64 → Int32 → Prop) (outline : Int64) (strokes : Int32) (keys : Int32) (inWord : Int32) (word : Int64) (letters : Int32) : Prop := (¬ p1 = 59 → P 0 outline strokes keys inWord word letters) ∧ (p1 = 59 → (letters ≤ 0 → P 0 outline strokes keys inWord word letters) ∧ (¬ (letters ≤ 0) → wX4_restart (fun outline_63 strokes_63 keys_63 inWord_63 word_63 letters_63 => P 1 outline_63 strokes_63 keys_63 inWord_63 word_63 letters_63) outline strokes keys inWord word letters))
def wX4_readsInWord (p1 : Int32) (P : Int32 → Int64 → Int32 → Int32 → Int32 → Int64 → Int32 → Prop) (outline : Int64) (strokes : Int32) (keys : Int32) (inWord : Int32) (word : Int64) (letters : Int32) : Prop := (p1 < 97 → wX4_readsInWord_49 p1 P outline strokes keys inWord word letters) ∧ (¬ (p1 < 97) → (122 < p1 → wX4_readsInWord_49 p1 P outline strokes keys inWord word letters) ∧ (¬ (122 < p1) → (8 ≤ letters → wX4_readsInWord_49 p1 P outline strokes keys inWord word letters) ∧ (¬ (8 ≤ letters) → wX9_with word letters p1 (fun r_31 => ∀ letters_44 : Int32, letters_44 = (letters + 1) → P 1 outline strokes keys inWord r_31 letters_44))))
set_option maxHeartbeats 4000000 in
set_option maxRecDepth 100000 in
theorem kX4_readsInWord (l : Launch) (g : kT) (a_this : Nat) (outline : Int64) (strokes : Int32) (keys : Int32) (inWord : Int32) (word : Int64) (letters : Int32) (p1 : Int32) (P : Int32 → Int64 → Int32 → Int32 → Int32 → Int64 → Int32 → Prop) (hw : wX4_readsInWord p1 P outline strokes keys inWord word letters) : Ki6 l g yX4_readsInWord wsX4_readsInWord 1 23 0 0 [.ref a_this, .int p1] (gX4 g a_this outline strokes keys inWord word letters) P (fun outline strokes keys inWord word letters => (gX4 g a_this outline strokes keys inWord word letters)) := by
  refine Ki6.mk (cc := cX4_readsInWord) (nL := 2) (ty := .boolean) (by decide +kernel) rfl (Nat.le_of_ble_eq_true rfl) ?_
  intro p e s m below meth c A Q ls F hl V ret
  have hx := F.x
  have hb := F.b
  have hl : lv_has ls 2 [(0, .ref a_this), (1, .int p1)] := hl
  have B49 :  ∀ {H : Heap} {locs : List Loc} {ls : Array Slot} (outline : Int64) (strokes : Int32) (keys : Int32) (inWord : Int32) (word : Int64) (letters : Int32) (V : VW g A s.heap H locs (gX4 g a_this outline strokes keys inWord word letters)) (hl : lv_has ls 2 [(0, .ref a_this), (1, .int p1)]) (hw : wX4_readsInWord_49 p1 P outline strokes keys inWord word letters), W p l e (kR 1 23 0 0) s m ([.ref a_this, .int p1] : List Value).toArray below meth c H locs 0 0 Q (F0 m 49 ls []) := by
    intro  H locs ls outline strokes keys inWord word letters V hl hw
    refine lv_iload_n hx hb dX4_readsInWord_49 rfl (lv_at hl 1 rfl) ?_
    refine lv_bipush (v := 59) hx hb dX4_readsInWord_50 (by decide) ?_
    refine lv_icmp_ne (tgt := 68) hx hb dX4_readsInWord_52 (by decide) (fun c_52 => ?_) (fun c_52 => ?_)
    · have hw := hw.1 c_52
      refine lv_iconst (v := 0) hx hb dX4_readsInWord_68 (by decide) ?_
      exact ret _ _ _ _ _ _ _ _ _ _ _ rfl dX4_readsInWord_69 V hw
    · have hw := hw.2 c_52
      refine lv_aload_n hx hb dX4_readsInWord_55 rfl (lv_at hl 0 rfl) ?_
      refine kget F V 3 5 0 rfl rfl iX4_readsInWord_X4 fX4_readsInWord_29 (by decide) rfl rfl dX4_readsInWord_56 ?_
      refine lv_if_le (tgt := 68) hx hb dX4_readsInWord_59 (by decide) (fun c_59 => ?_) (fun c_59 => ?_)
      · have hw := hw.1 c_59
        refine lv_iconst (v := 0) hx hb dX4_readsInWord_68 (by decide) ?_
        exact ret _ _ _ _ _ _ _ _ _ _ _ rfl dX4_readsInWord_69 V hw
      · have hw := hw.2 c_59
        refine lv_aload_n hx hb dX4_readsInWord_62 rfl (lv_at hl 0 rfl) ?_
        refine kVv6 (rest := []) F hl V [0] [] [0] (fun outline_63 strokes_63 keys_63 inWord_63 word_63 letters_63 => (gX4 g a_this outline_63 strokes_63 keys_63 inWord_63 word_63 letters_63)) a_this 3 0 rfl rfl (kX4_restart l g a_this outline strokes keys inWord word letters _ hw) gX4_readsInWord_X4_restart rfl 0 rfl hdX4_restart rfl rfl (fun _ _ _ _ _ _ => rfl) rfl rfl rfl (by decide) ⟨Nat.le_of_ble_eq_true rfl, Nat.le_of_ble_eq_true rfl⟩ ⟨Nat.le_of_ble_eq_true rfl, Nat.le_of_ble_eq_true rfl⟩ (Nat.le_of_ble_eq_true rfl) rfl dX4_readsInWord_63 (fun outline_63 strokes_63 keys_63 inWord_63 word_63 letters_63 H locs hw V => ?_)
        refine lv_iconst (v := 1) hx hb dX4_readsInWord_66 (by decide) ?_
        exact ret _ _ _ _ _ _ _ _ _ _ _ rfl dX4_readsInWord_67 V hw
  refine lv_iload_n hx hb dX4_readsInWord_0 rfl (lv_at hl 1 rfl) ?_
  refine lv_bipush (v := 97) hx hb dX4_readsInWord_1 (by decide) ?_
  refine lv_icmp_lt (tgt := 49) hx hb dX4_readsInWord_3 (by decide) (fun c_3 => ?_) (fun c_3 => ?_)
  · have hw := hw.1 c_3
    exact B49  outline strokes keys inWord word letters V hl hw
  · have hw := hw.2 c_3
    refine lv_iload_n hx hb dX4_readsInWord_6 rfl (lv_at hl 1 rfl) ?_
    refine lv_bipush (v := 122) hx hb dX4_readsInWord_7 (by decide) ?_
    refine lv_icmp_gt (tgt := 49) hx hb dX4_readsInWord_9 (by decide) (fun c_9 => ?_) (fun c_9 => ?_)
    · have hw := hw.1 c_9
      exact B49  outline strokes keys inWord word letters V hl hw
    · have hw := hw.2 c_9
      refine lv_aload_n hx hb dX4_readsInWord_12 rfl (lv_at hl 0 rfl) ?_
      refine kget F V 3 5 0 rfl rfl iX4_readsInWord_X4 fX4_readsInWord_29 (by decide) rfl rfl dX4_readsInWord_13 ?_
      refine lv_bipush (v := 8) hx hb dX4_readsInWord_16 (by decide) ?_
      refine lv_icmp_ge (tgt := 49) hx hb dX4_readsInWord_18 (by decide) (fun c_18 => ?_) (fun c_18 => ?_)
      · have hw := hw.1 c_18
        exact B49  outline strokes keys inWord word letters V hl hw
      · have hw := hw.2 c_18
        refine lv_aload_n hx hb dX4_readsInWord_21 rfl (lv_at hl 0 rfl) ?_
        refine lv_aload_n hx hb dX4_readsInWord_22 rfl (lv_at hl 0 rfl) ?_
        refine kget F V 3 4 0 rfl rfl iX4_readsInWord_X4 fX4_readsInWord_26 (by decide) rfl rfl dX4_readsInWord_23 ?_
        refine lv_aload_n hx hb dX4_readsInWord_26 rfl (lv_at hl 0 rfl) ?_
        refine kget F V 3 5 0 rfl rfl iX4_readsInWord_X4 fX4_readsInWord_29 (by decide) rfl rfl dX4_readsInWord_27 ?_
        refine lv_iload_n hx hb dX4_readsInWord_30 rfl (lv_at hl 1 rfl) ?_
        refine kSl0n (rest := [.ref a_this]) F hl V (kX9_with l g word letters p1 _ hw) gX4_readsInWord_X9_with rfl 3 rfl hdX9_with ⟨Nat.le_of_ble_eq_true rfl, Nat.le_of_ble_eq_true rfl⟩ ⟨Nat.le_of_ble_eq_true rfl, Nat.le_of_ble_eq_true rfl⟩ (Nat.le_of_ble_eq_true rfl) rfl dX4_readsInWord_31 (fun r_31 H locs hw V => ?_)
        refine kput F V 3 4 0 tyX4_ok nmX4 rfl rfl iX4_readsInWord_X4 fX4_readsInWord_26 (by decide) rfl rfl rfl rfl (Nat.le_of_ble_eq_true rfl) dX4_readsInWord_34 (fun H locs V => ?_)
        have V : VW g A s.heap H locs (gX4 g a_this outline strokes keys inWord r_31 letters) := V
        refine lv_aload_n hx hb dX4_readsInWord_37 rfl (lv_at hl 0 rfl) ?_
        refine lv_dup hx hb dX4_readsInWord_38 rfl ?_
        refine kget F V 3 5 0 rfl rfl iX4_readsInWord_X4 fX4_readsInWord_29 (by decide) rfl rfl dX4_readsInWord_39 ?_
        refine lv_iconst (v := 1) hx hb dX4_readsInWord_42 (by decide) ?_
        refine lv_iadd hx hb dX4_readsInWord_43 ?_
        refine lv_topi (fun letters_44 eletters_44 => ?_)
        have hw := hw letters_44 eletters_44
        refine kput F V 3 5 0 tyX4_ok nmX4 rfl rfl iX4_readsInWord_X4 fX4_readsInWord_29 (by decide) rfl rfl rfl rfl (Nat.le_of_ble_eq_true rfl) dX4_readsInWord_44 (fun H locs V => ?_)
        have V : VW g A s.heap H locs (gX4 g a_this outline strokes keys inWord r_31 letters_44) := V
        refine lv_iconst (v := 1) hx hb dX4_readsInWord_47 (by decide) ?_
        exact ret _ _ _ _ _ _ _ _ _ _ _ rfl dX4_readsInWord_48 V hw
theorem hdX3_codeOf : yX3_codeOf.cls ≠ "java/lang/invoke/MethodHandle" ∧ yX3_codeOf.cls ≠ "java/lang/invoke/VarHandle" ∧ (parseMethodDescriptor yX3_codeOf.desc).map (fun d => d.parameters.length) = some 1 := by decide +kernel
def wX3_codeOf (p1 : Int32) (P : Int32 → Prop) : Prop := (p1 < 0 → P 0) ∧ (¬ (p1 < 0) → (12 ≤ p1 → P 0) ∧ (¬ (12 ≤ p1) → vp_in p1 12 ∧ P (kLet p1.toNatClampNeg)))
set_option maxHeartbeats 4000000 in
set_option maxRecDepth 100000 in
theorem kX3_codeOf (l : Launch) (g : kT) (p1 : Int32) (P : Int32 → Prop) (hw : wX3_codeOf p1 P) : Ki0 l g yX3_codeOf wsX3_codeOf 0 0 0 0 [.int p1] [] P [] := by
  refine Ki0.mk (cc := cX3_codeOf) (nL := 1) (ty := .int) (by decide +kernel) rfl (Nat.le_of_ble_eq_true rfl) ?_
  intro p e s m below meth c A Q ls F hl V ret
  obtain ⟨⟨tK, hZt, hTt⟩, -, -, hZn⟩ := F.Z
  have hx := F.x
  have hb := F.b
  have hl : lv_has ls 1 [(0, .int p1)] := hl
  refine lv_iload_n hx hb dX3_codeOf_0 rfl (lv_at hl 0 rfl) ?_
  refine lv_if_lt (tgt := 20) hx hb dX3_codeOf_1 (by decide) (fun c_1 => ?_) (fun c_1 => ?_)
  · have hw := hw.1 c_1
    refine lv_iconst (v := 0) hx hb dX3_codeOf_20 (by decide) ?_
    exact ret _ _ _ _ _ rfl dX3_codeOf_21 V hw
  · have hw := hw.2 c_1
    refine lv_iload_n hx hb dX3_codeOf_4 rfl (lv_at hl 0 rfl) ?_
    refine va_getsN hx hb hZt V.2.2 F.ow (va_Nw.use rfl (hZn _ (List.mem_of_getElem? (i := 0) rfl))) (fun _ h9 => h9) dX3_codeOf_5 ?_
    refine va_tlen hx hb hTt V.2.2 rfl dX3_codeOf_8 ?_
    refine lv_icmp_ge (tgt := 20) hx hb dX3_codeOf_9 (by decide) (fun c_9 => ?_) (fun c_9 => ?_)
    · have hw := hw.1 c_9
      refine lv_iconst (v := 0) hx hb dX3_codeOf_20 (by decide) ?_
      exact ret _ _ _ _ _ rfl dX3_codeOf_21 V hw
    · have hw := hw.2 c_9
      refine va_getsN hx hb hZt V.2.2 F.ow (va_Nw.use rfl (hZn _ (List.mem_of_getElem? (i := 0) rfl))) (fun _ h9 => h9) dX3_codeOf_12 ?_
      refine lv_iload_n hx hb dX3_codeOf_15 rfl (lv_at hl 0 rfl) ?_
      refine va_tc hx hb hTt V.2.2 hw.1 rfl dX3_codeOf_16 ?_
      have hw := hw.2
      refine lv_goto (tgt := 21) hx hb dX3_codeOf_17 (by decide) ?_
      exact ret _ _ _ _ _ rfl dX3_codeOf_21 V hw
theorem hdX3_keyOf : yX3_keyOf.cls ≠ "java/lang/invoke/MethodHandle" ∧ yX3_keyOf.cls ≠ "java/lang/invoke/VarHandle" ∧ (parseMethodDescriptor yX3_keyOf.desc).map (fun d => d.parameters.length) = some 1 := by decide +kernel
def wX3_keyOf_2 (p1 : Int32) (P : Int32 → Prop) : Nat → Int32 → Prop
  | 0, _ => False
  | n + 1, v1 => (12 ≤ v1 → P (-1)) ∧ (¬ (12 ≤ v1) → wX3_codeOf v1 (fun r_9 => (¬ r_9 = p1 → (wX3_keyOf_2 p1 P n) (v1 + 1)) ∧ (r_9 = p1 → P v1)))
def wX3_keyOf (p1 : Int32) (P : Int32 → Prop) : Prop := ∃ n_2, wX3_keyOf_2 p1 P n_2 0
set_option maxHeartbeats 4000000 in
set_option maxRecDepth 100000 in
theorem kX3_keyOf (l : Launch) (g : kT) (p1 : Int32) (P : Int32 → Prop) (hw : wX3_keyOf p1 P) : Ki0 l g yX3_keyOf wsX3_keyOf 1 20 0 0 [.int p1] [] P [] := by
  refine Ki0.mk (cc := cX3_keyOf) (nL := 2) (ty := .int) (by decide +kernel) rfl (Nat.le_of_ble_eq_true rfl) ?_
  intro p e s m below meth c A Q ls F hl V ret
  have hx := F.x
  have hb := F.b
  have hl : lv_has ls 2 [(0, .int p1)] := hl
  have B2 :  ∀ (n : Nat), ∀ {H : Heap} {locs : List Loc} {ls : Array Slot} (v1 : Int32) (V : VW g A s.heap H locs []) (hl : lv_has ls 2 [(0, .int p1), (1, .int v1)]) (hw : wX3_keyOf_2 p1 P n v1), W p l e (kR 1 20 0 0) s m ([.int p1] : List Value).toArray below meth c H locs 0 0 Q (F0 m 2 ls []) := by
    intro n
    induction n with
    | zero => intro _ _ _ _ V hl hw; exact hw.elim
    | succ n ih =>
      intro H locs ls v1 V hl hw
      refine lv_iload_n hx hb dX3_keyOf_2 rfl (lv_at hl 1 rfl) ?_
      refine lv_bipush (v := 12) hx hb dX3_keyOf_3 (by decide) ?_
      refine lv_icmp_ge (tgt := 24) hx hb dX3_keyOf_5 (by decide) (fun c_5 => ?_) (fun c_5 => ?_)
      · have hw := hw.1 c_5
        refine lv_iconst (v := (-1)) hx hb dX3_keyOf_24 (by decide) ?_
        exact ret _ _ _ _ _ rfl dX3_keyOf_25 V hw
      · have hw := hw.2 c_5
        refine lv_iload_n hx hb dX3_keyOf_8 rfl (lv_at hl 1 rfl) ?_
        refine kSi0n (rest := []) F hl V (kX3_codeOf l g v1 _ hw) gX3_keyOf_X3_codeOf rfl 1 rfl hdX3_codeOf ⟨Nat.le_of_ble_eq_true rfl, Nat.le_of_ble_eq_true rfl⟩ ⟨Nat.le_of_ble_eq_true rfl, Nat.le_of_ble_eq_true rfl⟩ (Nat.le_of_ble_eq_true rfl) rfl dX3_keyOf_9 (fun r_9 H locs hw V => ?_)
        refine lv_iload_n hx hb dX3_keyOf_12 rfl (lv_at hl 0 rfl) ?_
        refine lv_icmp_ne (tgt := 18) hx hb dX3_keyOf_13 (by decide) (fun c_13 => ?_) (fun c_13 => ?_)
        · have hw := hw.1 c_13
          refine lv_iinc (v := v1 + 1) (lv' := [(1, .int (v1 + 1)), (0, .int p1)]) hx hb dX3_keyOf_18 hl (k := 1) rfl rfl (by decide) rfl (fun ls hl => ?_)
          refine lv_goto (tgt := 2) hx hb dX3_keyOf_21 (by decide) ?_
          exact ih (v1 + 1) V (lv_sub hl [1, 0] rfl) hw
        · have hw := hw.2 c_13
          refine lv_iload_n hx hb dX3_keyOf_16 rfl (lv_at hl 1 rfl) ?_
          exact ret _ _ _ _ _ rfl dX3_keyOf_17 V hw
  refine lv_iconst (v := 0) hx hb dX3_keyOf_0 (by decide) ?_
  refine lv_istore_n (lv' := [(1, .int 0), (0, .int p1)]) hx hb dX3_keyOf_1 rfl hl (by decide) rfl (fun ls hl => ?_)
  obtain ⟨n_2, hw⟩ := hw
  exact B2  n_2 0 V (lv_sub hl [1, 0] rfl) hw
theorem hdX4_readsKey : yX4_readsKey.cls = RX4 ∧ yX4_readsKey.cls ≠ "java/lang/invoke/MethodHandle" ∧ yX4_readsKey.cls ≠ "java/lang/invoke/VarHandle" ∧ (parseMethodDescriptor yX4_readsKey.desc).map (fun d => d.parameters.length) = some 1 := by decide +kernel
theorem fX4_readsKey_19 : Cond.fieldLink RX4 19 RX4 "keys" "I" ∈ wsX4_readsKey := by decide +kernel
theorem iX4_readsKey_X4 : ∀ w ∈ u_ws RX4 TX4 6, w ∈ wsX4_readsKey := by decide +kernel
def wX4_readsKey (p1 : Int32) (P : Int32 → Int32 → Prop) (keys : Int32) : Prop := ((keys >>> (p1 &&& 31)) = 0 → ∀ keys_20 : Int32, keys_20 = (keys ||| (1 <<< (p1 &&& 31))) → P 1 keys_20) ∧ (¬ ((keys >>> (p1 &&& 31)) = 0) → P 0 keys)
set_option maxHeartbeats 4000000 in
set_option maxRecDepth 100000 in
theorem kX4_readsKey (l : Launch) (g : kT) (a_this : Nat) (outline : Int64) (strokes : Int32) (keys : Int32) (inWord : Int32) (word : Int64) (letters : Int32) (p1 : Int32) (P : Int32 → Int32 → Prop) (hw : wX4_readsKey p1 P keys) : Ki1 l g yX4_readsKey wsX4_readsKey 0 0 0 0 [.ref a_this, .int p1] (gX4 g a_this outline strokes keys inWord word letters) P (fun keys => (gX4 g a_this outline strokes keys inWord word letters)) := by
  refine Ki1.mk (cc := cX4_readsKey) (nL := 2) (ty := .boolean) (by decide +kernel) rfl (Nat.le_of_ble_eq_true rfl) ?_
  intro p e s m below meth c A Q ls F hl V ret
  have hx := F.x
  have hb := F.b
  have hl : lv_has ls 2 [(0, .ref a_this), (1, .int p1)] := hl
  refine lv_aload_n hx hb dX4_readsKey_0 rfl (lv_at hl 0 rfl) ?_
  refine kget F V 3 2 0 rfl rfl iX4_readsKey_X4 fX4_readsKey_19 (by decide) rfl rfl dX4_readsKey_1 ?_
  refine lv_iload_n hx hb dX4_readsKey_4 rfl (lv_at hl 1 rfl) ?_
  refine lv_ishr hx hb dX4_readsKey_5 ?_
  refine lv_if_eq (tgt := 11) hx hb dX4_readsKey_6 (by decide) (fun c_6 => ?_) (fun c_6 => ?_)
  · have hw := hw.1 c_6
    refine lv_aload_n hx hb dX4_readsKey_11 rfl (lv_at hl 0 rfl) ?_
    refine lv_dup hx hb dX4_readsKey_12 rfl ?_
    refine kget F V 3 2 0 rfl rfl iX4_readsKey_X4 fX4_readsKey_19 (by decide) rfl rfl dX4_readsKey_13 ?_
    refine lv_iconst (v := 1) hx hb dX4_readsKey_16 (by decide) ?_
    refine lv_iload_n hx hb dX4_readsKey_17 rfl (lv_at hl 1 rfl) ?_
    refine lv_ishl hx hb dX4_readsKey_18 ?_
    refine lv_ior hx hb dX4_readsKey_19 ?_
    refine lv_topi (fun keys_20 ekeys_20 => ?_)
    have hw := hw keys_20 ekeys_20
    refine kput F V 3 2 0 tyX4_ok nmX4 rfl rfl iX4_readsKey_X4 fX4_readsKey_19 (by decide) rfl rfl rfl rfl (Nat.le_of_ble_eq_true rfl) dX4_readsKey_20 (fun H locs V => ?_)
    have V : VW g A s.heap H locs (gX4 g a_this outline strokes keys_20 inWord word letters) := V
    refine lv_iconst (v := 1) hx hb dX4_readsKey_23 (by decide) ?_
    exact ret _ _ _ _ _ _ rfl dX4_readsKey_24 V hw
  · have hw := hw.2 c_6
    refine lv_iconst (v := 0) hx hb dX4_readsKey_9 (by decide) ?_
    exact ret _ _ _ _ _ _ rfl dX4_readsKey_10 V hw
theorem hdX5_with : yX5_with.cls ≠ "java/lang/invoke/MethodHandle" ∧ yX5_with.cls ≠ "java/lang/invoke/VarHandle" ∧ (parseMethodDescriptor yX5_with.desc).map (fun d => d.parameters.length) = some 3 := by decide +kernel
def wX5_with (p1 : Int64) (p2 : Int32) (p3 : Int32) (P : Int64 → Prop) : Prop := P (p1 ||| ((p3.toInt64) <<< ((p2 * 12).toInt64 &&& 63)))
set_option maxHeartbeats 4000000 in
set_option maxRecDepth 100000 in
theorem kX5_with (l : Launch) (g : kT) (p1 : Int64) (p2 : Int32) (p3 : Int32) (P : Int64 → Prop) (hw : wX5_with p1 p2 p3 P) : Kl0 l g yX5_with wsX5_with 0 0 0 0 [.long p1, .int p2, .int p3] [] P [] := by
  refine Kl0.mk (cc := cX5_with) (nL := 4) (by decide +kernel) rfl (Nat.le_of_ble_eq_true rfl) ?_
  intro p e s m below meth c A Q ls F hl V ret
  have hx := F.x
  have hb := F.b
  have hl : lv_has ls 4 [(0, .long p1), (2, .int p2), (3, .int p3)] := hl
  refine lv_lload_n hx hb dX5_with_0 rfl (lv_at hl 0 rfl) ?_
  refine lv_iload_n hx hb dX5_with_1 rfl (lv_at hl 2 rfl) ?_
  refine lv_i2l hx hb dX5_with_2 rfl ?_
  refine lv_iload_n hx hb dX5_with_3 rfl (lv_at hl 1 rfl) ?_
  refine lv_bipush (v := 12) hx hb dX5_with_4 (by decide) ?_
  refine lv_imul hx hb dX5_with_6 ?_
  refine lv_lshl hx hb dX5_with_7 rfl ?_
  refine lv_lor hx hb dX5_with_8 ?_
  exact ret _ _ _ _ _ dX5_with_9 V hw
theorem hdX4_endStroke : yX4_endStroke.cls = RX4 ∧ yX4_endStroke.cls ≠ "java/lang/invoke/MethodHandle" ∧ yX4_endStroke.cls ≠ "java/lang/invoke/VarHandle" ∧ (parseMethodDescriptor yX4_endStroke.desc).map (fun d => d.parameters.length) = some 0 := by decide +kernel
theorem fX4_endStroke_9 : Cond.fieldLink RX4 9 RX4 "outline" "J" ∈ wsX4_endStroke := by decide +kernel
theorem iX4_endStroke_X4 : ∀ w ∈ u_ws RX4 TX4 6, w ∈ wsX4_endStroke := by decide +kernel
theorem fX4_endStroke_15 : Cond.fieldLink RX4 15 RX4 "strokes" "I" ∈ wsX4_endStroke := by decide +kernel
theorem fX4_endStroke_19 : Cond.fieldLink RX4 19 RX4 "keys" "I" ∈ wsX4_endStroke := by decide +kernel
def wX4_endStroke (P : Int64 → Int32 → Int32 → Prop) (outline : Int64) (strokes : Int32) (keys : Int32) : Prop := wX5_with outline strokes keys (fun r_13 => ∀ strokes_26 : Int32, strokes_26 = (strokes + 1) → P r_13 strokes_26 0)
set_option maxHeartbeats 4000000 in
set_option maxRecDepth 100000 in
theorem kX4_endStroke (l : Launch) (g : kT) (a_this : Nat) (outline : Int64) (strokes : Int32) (keys : Int32) (inWord : Int32) (word : Int64) (letters : Int32) (P : Int64 → Int32 → Int32 → Prop) (hw : wX4_endStroke P outline strokes keys) : Kv3 l g yX4_endStroke wsX4_endStroke 1 23 0 0 [.ref a_this] (gX4 g a_this outline strokes keys inWord word letters) P (fun outline strokes keys => (gX4 g a_this outline strokes keys inWord word letters)) := by
  refine Kv3.mk (cc := cX4_endStroke) (nL := 1) (by decide +kernel) rfl (Nat.le_of_ble_eq_true rfl) ?_
  intro p e s m below meth c A Q ls F hl V ret _
  have hx := F.x
  have hb := F.b
  have hl : lv_has ls 1 [(0, .ref a_this)] := hl
  refine lv_aload_n hx hb dX4_endStroke_0 rfl (lv_at hl 0 rfl) ?_
  refine lv_aload_n hx hb dX4_endStroke_1 rfl (lv_at hl 0 rfl) ?_
  refine kget F V 3 0 0 rfl rfl iX4_endStroke_X4 fX4_endStroke_9 (by decide) rfl rfl dX4_endStroke_2 ?_
  refine lv_aload_n hx hb dX4_endStroke_5 rfl (lv_at hl 0 rfl) ?_
  refine kget F V 3 1 0 rfl rfl iX4_endStroke_X4 fX4_endStroke_15 (by decide) rfl rfl dX4_endStroke_6 ?_
  refine lv_aload_n hx hb dX4_endStroke_9 rfl (lv_at hl 0 rfl) ?_
  refine kget F V 3 2 0 rfl rfl iX4_endStroke_X4 fX4_endStroke_19 (by decide) rfl rfl dX4_endStroke_10 ?_
  refine kSl0n (rest := [.ref a_this]) F hl V (kX5_with l g outline strokes keys _ hw) gX4_endStroke_X5_with rfl 3 rfl hdX5_with ⟨Nat.le_of_ble_eq_true rfl, Nat.le_of_ble_eq_true rfl⟩ ⟨Nat.le_of_ble_eq_true rfl, Nat.le_of_ble_eq_true rfl⟩ (Nat.le_of_ble_eq_true rfl) rfl dX4_endStroke_13 (fun r_13 H locs hw V => ?_)
  refine kput F V 3 0 0 tyX4_ok nmX4 rfl rfl iX4_endStroke_X4 fX4_endStroke_9 (by decide) rfl rfl rfl rfl (Nat.le_of_ble_eq_true rfl) dX4_endStroke_16 (fun H locs V => ?_)
  have V : VW g A s.heap H locs (gX4 g a_this r_13 strokes keys inWord word letters) := V
  refine lv_aload_n hx hb dX4_endStroke_19 rfl (lv_at hl 0 rfl) ?_
  refine lv_dup hx hb dX4_endStroke_20 rfl ?_
  refine kget F V 3 1 0 rfl rfl iX4_endStroke_X4 fX4_endStroke_15 (by decide) rfl rfl dX4_endStroke_21 ?_
  refine lv_iconst (v := 1) hx hb dX4_endStroke_24 (by decide) ?_
  refine lv_iadd hx hb dX4_endStroke_25 ?_
  refine lv_topi (fun strokes_26 estrokes_26 => ?_)
  have hw := hw strokes_26 estrokes_26
  refine kput F V 3 1 0 tyX4_ok nmX4 rfl rfl iX4_endStroke_X4 fX4_endStroke_15 (by decide) rfl rfl rfl rfl (Nat.le_of_ble_eq_true rfl) dX4_endStroke_26 (fun H locs V => ?_)
  have V : VW g A s.heap H locs (gX4 g a_this r_13 strokes_26 keys inWord word letters) := V
  refine lv_aload_n hx hb dX4_endStroke_29 rfl (lv_at hl 0 rfl) ?_
  refine lv_iconst (v := 0) hx hb dX4_endStroke_30 (by decide) ?_
  refine kput F V 3 2 0 tyX4_ok nmX4 rfl rfl iX4_endStroke_X4 fX4_endStroke_19 (by decide) rfl rfl rfl rfl (Nat.le_of_ble_eq_true rfl) dX4_endStroke_31 (fun H locs V => ?_)
  have V : VW g A s.heap H locs (gX4 g a_this r_13 strokes_26 0 inWord word letters) := V
  exact ret _ _ _ _ _ _ _ dX4_endStroke_34 V hw
theorem hdX4_readsInOutline : yX4_readsInOutline.cls = RX4 ∧ yX4_readsInOutline.cls ≠ "java/lang/invoke/MethodHandle" ∧ yX4_readsInOutline.cls ≠ "java/lang/invoke/VarHandle" ∧ (parseMethodDescriptor yX4_readsInOutline.desc).map (fun d => d.parameters.length) = some 1 := by decide +kernel
theorem fX4_readsInOutline_19 : Cond.fieldLink RX4 19 RX4 "keys" "I" ∈ wsX4_readsInOutline := by decide +kernel
theorem iX4_readsInOutline_X4 : ∀ w ∈ u_ws RX4 TX4 6, w ∈ wsX4_readsInOutline := by decide +kernel
theorem fX4_readsInOutline_15 : Cond.fieldLink RX4 15 RX4 "strokes" "I" ∈ wsX4_readsInOutline := by decide +kernel
theorem fX4_readsInOutline_22 : Cond.fieldLink RX4 22 RX4 "inWord" "Z" ∈ wsX4_readsInOutline := by decide +kernel
def wX4_readsInOutline_47 (p1 : Int32) (P : Int32 → Int64 → Int32 → Int32 → Int32 → Prop) (outline : Int64) (strokes : Int32) (keys : Int32) (inWord : Int32) : Prop := (¬ p1 = 61 → P 0 outline strokes keys inWord) ∧ (p1 = 61 → wX4_endStroke (fun outline_54 strokes_54 keys_54 => P 1 outline_54 strokes_54 keys_54 1) outline strokes keys)
def wX4_readsInOutline (p1 : Int32) (P : Int32 → Int64 → Int32 → Int32 → Int32 → Prop) (outline : Int64) (strokes : Int32) (keys : Int32) (inWord : Int32) : Prop := wX3_keyOf p1 (fun r_1 => (r_1 = (-1) → (¬ keys = 0 → (¬ p1 = 47 → wX4_readsInOutline_47 p1 P outline strokes keys inWord) ∧ (p1 = 47 → (4 ≤ (strokes + 1) → wX4_readsInOutline_47 p1 P outline strokes keys inWord) ∧ (¬ (4 ≤ (strokes + 1)) → wX4_endStroke (fun outline_42 strokes_42 keys_42 => P 1 outline_42 strokes_42 keys_42 inWord) outline strokes keys))) ∧ (keys = 0 → P 0 outline strokes keys inWord)) ∧ (¬ (r_1 = (-1)) → wX4_readsKey r_1 (fun r_12 keys_12 => (r_12 = 0 ∨ r_12 = 1) ∧ P r_12 outline strokes keys_12 inWord) keys))
set_option maxHeartbeats 4000000 in
set_option maxRecDepth 100000 in
theorem kX4_readsInOutline (l : Launch) (g : kT) (a_this : Nat) (outline : Int64) (strokes : Int32) (keys : Int32) (inWord : Int32) (word : Int64) (letters : Int32) (p1 : Int32) (P : Int32 → Int64 → Int32 → Int32 → Int32 → Prop) (hw : wX4_readsInOutline p1 P outline strokes keys inWord) : Ki4 l g yX4_readsInOutline wsX4_readsInOutline 2 43 0 0 [.ref a_this, .int p1] (gX4 g a_this outline strokes keys inWord word letters) P (fun outline strokes keys inWord => (gX4 g a_this outline strokes keys inWord word letters)) := by
  refine Ki4.mk (cc := cX4_readsInOutline) (nL := 3) (ty := .boolean) (by decide +kernel) rfl (Nat.le_of_ble_eq_true rfl) ?_
  intro p e s m below meth c A Q ls F hl V ret
  have hx := F.x
  have hb := F.b
  have hl : lv_has ls 3 [(0, .ref a_this), (1, .int p1)] := hl
  have B47 :  ∀ {H : Heap} {locs : List Loc} {ls : Array Slot} (outline : Int64) (strokes : Int32) (keys : Int32) (inWord : Int32) (V : VW g A s.heap H locs (gX4 g a_this outline strokes keys inWord word letters)) (hl : lv_has ls 3 [(0, .ref a_this), (1, .int p1)]) (hw : wX4_readsInOutline_47 p1 P outline strokes keys inWord), W p l e (kR 2 43 0 0) s m ([.ref a_this, .int p1] : List Value).toArray below meth c H locs 0 0 Q (F0 m 47 ls []) := by
    intro  H locs ls outline strokes keys inWord V hl hw
    refine lv_iload_n hx hb dX4_readsInOutline_47 rfl (lv_at hl 1 rfl) ?_
    refine lv_bipush (v := 61) hx hb dX4_readsInOutline_48 (by decide) ?_
    refine lv_icmp_ne (tgt := 64) hx hb dX4_readsInOutline_50 (by decide) (fun c_50 => ?_) (fun c_50 => ?_)
    · have hw := hw.1 c_50
      refine lv_iconst (v := 0) hx hb dX4_readsInOutline_64 (by decide) ?_
      exact ret _ _ _ _ _ _ _ _ _ rfl dX4_readsInOutline_65 V hw
    · have hw := hw.2 c_50
      refine lv_aload_n hx hb dX4_readsInOutline_53 rfl (lv_at hl 0 rfl) ?_
      refine kVv3 (rest := []) F hl V [0] [] [0] (fun outline_54 strokes_54 keys_54 => (gX4 g a_this outline_54 strokes_54 keys_54 inWord word letters)) a_this 3 0 rfl rfl (kX4_endStroke l g a_this outline strokes keys inWord word letters _ hw) gX4_readsInOutline_X4_endStroke rfl 0 rfl hdX4_endStroke rfl rfl (fun _ _ _ => rfl) rfl rfl rfl (by decide) ⟨Nat.le_of_ble_eq_true rfl, Nat.le_of_ble_eq_true rfl⟩ ⟨Nat.le_of_ble_eq_true rfl, Nat.le_of_ble_eq_true rfl⟩ (Nat.le_of_ble_eq_true rfl) rfl dX4_readsInOutline_54 (fun outline_54 strokes_54 keys_54 H locs hw V => ?_)
      refine lv_aload_n hx hb dX4_readsInOutline_57 rfl (lv_at hl 0 rfl) ?_
      refine lv_iconst (v := 1) hx hb dX4_readsInOutline_58 (by decide) ?_
      refine kput F V 3 3 0 tyX4_ok nmX4 rfl rfl iX4_readsInOutline_X4 fX4_readsInOutline_22 (by decide) rfl rfl rfl rfl (Nat.le_of_ble_eq_true rfl) dX4_readsInOutline_59 (fun H locs V => ?_)
      have V : VW g A s.heap H locs (gX4 g a_this outline_54 strokes_54 keys_54 1 word letters) := V
      refine lv_iconst (v := 1) hx hb dX4_readsInOutline_62 (by decide) ?_
      exact ret _ _ _ _ _ _ _ _ _ rfl dX4_readsInOutline_63 V hw
  refine lv_iload_n hx hb dX4_readsInOutline_0 rfl (lv_at hl 1 rfl) ?_
  refine kSi0n (rest := []) F hl V (kX3_keyOf l g p1 _ hw) gX4_readsInOutline_X3_keyOf rfl 1 rfl hdX3_keyOf ⟨Nat.le_of_ble_eq_true rfl, Nat.le_of_ble_eq_true rfl⟩ ⟨Nat.le_of_ble_eq_true rfl, Nat.le_of_ble_eq_true rfl⟩ (Nat.le_of_ble_eq_true rfl) rfl dX4_readsInOutline_1 (fun r_1 H locs hw V => ?_)
  refine lv_istore_n (lv' := [(2, .int r_1), (0, .ref a_this), (1, .int p1)]) hx hb dX4_readsInOutline_4 rfl hl (by decide) rfl (fun ls hl => ?_)
  refine lv_iload_n hx hb dX4_readsInOutline_5 rfl (lv_at hl 0 rfl) ?_
  refine lv_iconst (v := (-1)) hx hb dX4_readsInOutline_6 (by decide) ?_
  refine lv_icmp_eq (tgt := 16) hx hb dX4_readsInOutline_7 (by decide) (fun c_7 => ?_) (fun c_7 => ?_)
  · have hw := hw.1 c_7
    refine lv_aload_n hx hb dX4_readsInOutline_16 rfl (lv_at hl 1 rfl) ?_
    refine kget F V 3 2 0 rfl rfl iX4_readsInOutline_X4 fX4_readsInOutline_19 (by decide) rfl rfl dX4_readsInOutline_17 ?_
    refine lv_if_ne (tgt := 25) hx hb dX4_readsInOutline_20 (by decide) (fun c_20 => ?_) (fun c_20 => ?_)
    · have hw := hw.1 c_20
      refine lv_iload_n hx hb dX4_readsInOutline_25 rfl (lv_at hl 2 rfl) ?_
      refine lv_bipush (v := 47) hx hb dX4_readsInOutline_26 (by decide) ?_
      refine lv_icmp_ne (tgt := 47) hx hb dX4_readsInOutline_28 (by decide) (fun c_28 => ?_) (fun c_28 => ?_)
      · have hw := hw.1 c_28
        exact B47  outline strokes keys inWord V (lv_sub hl [1, 2] rfl) hw
      · have hw := hw.2 c_28
        refine lv_aload_n hx hb dX4_readsInOutline_31 rfl (lv_at hl 1 rfl) ?_
        refine kget F V 3 1 0 rfl rfl iX4_readsInOutline_X4 fX4_readsInOutline_15 (by decide) rfl rfl dX4_readsInOutline_32 ?_
        refine lv_iconst (v := 1) hx hb dX4_readsInOutline_35 (by decide) ?_
        refine lv_iadd hx hb dX4_readsInOutline_36 ?_
        refine lv_iconst (v := 4) hx hb dX4_readsInOutline_37 (by decide) ?_
        refine lv_icmp_ge (tgt := 47) hx hb dX4_readsInOutline_38 (by decide) (fun c_38 => ?_) (fun c_38 => ?_)
        · have hw := hw.1 c_38
          exact B47  outline strokes keys inWord V (lv_sub hl [1, 2] rfl) hw
        · have hw := hw.2 c_38
          refine lv_aload_n hx hb dX4_readsInOutline_41 rfl (lv_at hl 1 rfl) ?_
          refine kVv3 (rest := []) F hl V [0] [] [0] (fun outline_42 strokes_42 keys_42 => (gX4 g a_this outline_42 strokes_42 keys_42 inWord word letters)) a_this 3 0 rfl rfl (kX4_endStroke l g a_this outline strokes keys inWord word letters _ hw) gX4_readsInOutline_X4_endStroke rfl 0 rfl hdX4_endStroke rfl rfl (fun _ _ _ => rfl) rfl rfl rfl (by decide) ⟨Nat.le_of_ble_eq_true rfl, Nat.le_of_ble_eq_true rfl⟩ ⟨Nat.le_of_ble_eq_true rfl, Nat.le_of_ble_eq_true rfl⟩ (Nat.le_of_ble_eq_true rfl) rfl dX4_readsInOutline_42 (fun outline_42 strokes_42 keys_42 H locs hw V => ?_)
          refine lv_iconst (v := 1) hx hb dX4_readsInOutline_45 (by decide) ?_
          exact ret _ _ _ _ _ _ _ _ _ rfl dX4_readsInOutline_46 V hw
    · have hw := hw.2 c_20
      refine lv_iconst (v := 0) hx hb dX4_readsInOutline_23 (by decide) ?_
      exact ret _ _ _ _ _ _ _ _ _ rfl dX4_readsInOutline_24 V hw
  · have hw := hw.2 c_7
    refine lv_aload_n hx hb dX4_readsInOutline_10 rfl (lv_at hl 1 rfl) ?_
    refine lv_iload_n hx hb dX4_readsInOutline_11 rfl (lv_at hl 0 rfl) ?_
    refine kVi1 (rest := []) F hl V [0] [] [0] (fun keys_12 => (gX4 g a_this outline strokes keys_12 inWord word letters)) a_this 3 0 rfl rfl (kX4_readsKey l g a_this outline strokes keys inWord word letters r_1 _ hw) gX4_readsInOutline_X4_readsKey rfl 1 rfl hdX4_readsKey rfl rfl (fun _ => rfl) rfl rfl rfl (by decide) ⟨Nat.le_of_ble_eq_true rfl, Nat.le_of_ble_eq_true rfl⟩ ⟨Nat.le_of_ble_eq_true rfl, Nat.le_of_ble_eq_true rfl⟩ (Nat.le_of_ble_eq_true rfl) rfl dX4_readsInOutline_12 (fun r_12 keys_12 H locs hw V => ?_)
    exact ret _ _ _ _ _ _ _ _ _ (k01n hw.1) dX4_readsInOutline_15 V hw.2
theorem hdX4_reads : yX4_reads.cls = RX4 ∧ yX4_reads.cls ≠ "java/lang/invoke/MethodHandle" ∧ yX4_reads.cls ≠ "java/lang/invoke/VarHandle" ∧ (parseMethodDescriptor yX4_reads.desc).map (fun d => d.parameters.length) = some 1 := by decide +kernel
theorem fX4_reads_22 : Cond.fieldLink RX4 22 RX4 "inWord" "Z" ∈ wsX4_reads := by decide +kernel
theorem iX4_reads_X4 : ∀ w ∈ u_ws RX4 TX4 6, w ∈ wsX4_reads := by decide +kernel
def wX4_reads (p1 : Int32) (P : Int32 → Int64 → Int32 → Int32 → Int32 → Int64 → Int32 → Prop) (outline : Int64) (strokes : Int32) (keys : Int32) (inWord : Int32) (word : Int64) (letters : Int32) : Prop := (inWord = 0 → wX4_readsInOutline p1 (fun r_17 outline_17 strokes_17 keys_17 inWord_17 => (r_17 = 0 ∨ r_17 = 1) ∧ P r_17 outline_17 strokes_17 keys_17 inWord_17 word letters) outline strokes keys inWord) ∧ (¬ (inWord = 0) → wX4_readsInWord p1 (fun r_9 outline_9 strokes_9 keys_9 inWord_9 word_9 letters_9 => (r_9 = 0 ∨ r_9 = 1) ∧ P r_9 outline_9 strokes_9 keys_9 inWord_9 word_9 letters_9) outline strokes keys inWord word letters)
set_option maxHeartbeats 4000000 in
set_option maxRecDepth 100000 in
theorem kX4_reads (l : Launch) (g : kT) (a_this : Nat) (outline : Int64) (strokes : Int32) (keys : Int32) (inWord : Int32) (word : Int64) (letters : Int32) (p1 : Int32) (P : Int32 → Int64 → Int32 → Int32 → Int32 → Int64 → Int32 → Prop) (hw : wX4_reads p1 P outline strokes keys inWord word letters) : Ki6 l g yX4_reads wsX4_reads 3 65 0 0 [.ref a_this, .int p1] (gX4 g a_this outline strokes keys inWord word letters) P (fun outline strokes keys inWord word letters => (gX4 g a_this outline strokes keys inWord word letters)) := by
  refine Ki6.mk (cc := cX4_reads) (nL := 2) (ty := .boolean) (by decide +kernel) rfl (Nat.le_of_ble_eq_true rfl) ?_
  intro p e s m below meth c A Q ls F hl V ret
  have hx := F.x
  have hb := F.b
  have hl : lv_has ls 2 [(0, .ref a_this), (1, .int p1)] := hl
  refine lv_aload_n hx hb dX4_reads_0 rfl (lv_at hl 0 rfl) ?_
  refine kget F V 3 3 0 rfl rfl iX4_reads_X4 fX4_reads_22 (by decide) rfl rfl dX4_reads_1 ?_
  refine lv_if_eq (tgt := 15) hx hb dX4_reads_4 (by decide) (fun c_4 => ?_) (fun c_4 => ?_)
  · have hw := hw.1 c_4
    refine lv_aload_n hx hb dX4_reads_15 rfl (lv_at hl 0 rfl) ?_
    refine lv_iload_n hx hb dX4_reads_16 rfl (lv_at hl 1 rfl) ?_
    refine kVi4 (rest := []) F hl V [0] [] [0] (fun outline_17 strokes_17 keys_17 inWord_17 => (gX4 g a_this outline_17 strokes_17 keys_17 inWord_17 word letters)) a_this 3 0 rfl rfl (kX4_readsInOutline l g a_this outline strokes keys inWord word letters p1 _ hw) gX4_reads_X4_readsInOutline rfl 1 rfl hdX4_readsInOutline rfl rfl (fun _ _ _ _ => rfl) rfl rfl rfl (by decide) ⟨Nat.le_of_ble_eq_true rfl, Nat.le_of_ble_eq_true rfl⟩ ⟨Nat.le_of_ble_eq_true rfl, Nat.le_of_ble_eq_true rfl⟩ (Nat.le_of_ble_eq_true rfl) rfl dX4_reads_17 (fun r_17 outline_17 strokes_17 keys_17 inWord_17 H locs hw V => ?_)
    exact ret _ _ _ _ _ _ _ _ _ _ _ (k01n hw.1) dX4_reads_20 V hw.2
  · have hw := hw.2 c_4
    refine lv_aload_n hx hb dX4_reads_7 rfl (lv_at hl 0 rfl) ?_
    refine lv_iload_n hx hb dX4_reads_8 rfl (lv_at hl 1 rfl) ?_
    refine kVi6 (rest := []) F hl V [0] [] [0] (fun outline_9 strokes_9 keys_9 inWord_9 word_9 letters_9 => (gX4 g a_this outline_9 strokes_9 keys_9 inWord_9 word_9 letters_9)) a_this 3 0 rfl rfl (kX4_readsInWord l g a_this outline strokes keys inWord word letters p1 _ hw) gX4_reads_X4_readsInWord rfl 1 rfl hdX4_readsInWord rfl rfl (fun _ _ _ _ _ _ => rfl) rfl rfl rfl (by decide) ⟨Nat.le_of_ble_eq_true rfl, Nat.le_of_ble_eq_true rfl⟩ ⟨Nat.le_of_ble_eq_true rfl, Nat.le_of_ble_eq_true rfl⟩ (Nat.le_of_ble_eq_true rfl) rfl dX4_reads_9 (fun r_9 outline_9 strokes_9 keys_9 inWord_9 word_9 letters_9 H locs hw V => ?_)
    refine lv_goto (tgt := 20) hx hb dX4_reads_12 (by decide) ?_
    exact ret _ _ _ _ _ _ _ _ _ _ _ (k01n hw.1) dX4_reads_20 V hw.2
theorem hdX4_firstErrorOf : yX4_firstErrorOf.cls = RX4 ∧ yX4_firstErrorOf.cls ≠ "java/lang/invoke/MethodHandle" ∧ yX4_firstErrorOf.cls ≠ "java/lang/invoke/VarHandle" ∧ (parseMethodDescriptor yX4_firstErrorOf.desc).map (fun d => d.parameters.length) = some 1 := by decide +kernel
theorem fX4_firstErrorOf_35 : Cond.fieldLink RX4 35 RX0 "length" "I" ∈ wsX4_firstErrorOf := by decide +kernel
theorem iX4_firstErrorOf_X0 : ∀ w ∈ u_ws RX0 TX0 2, w ∈ wsX4_firstErrorOf := by decide +kernel
theorem fX4_firstErrorOf_40 : Cond.fieldLink RX4 40 RX0 "codes" "[I" ∈ wsX4_firstErrorOf := by decide +kernel
def wX4_firstErrorOf_6 (p1_codes : Nat → Int32) (p1_length : Int32) (P : Int32 → Int64 → Int32 → Int32 → Int32 → Int64 → Int32 → Prop) : Nat → Int32 → Int64 → Int32 → Int32 → Int32 → Int64 → Int32 → Prop
  | 0, _, _, _, _, _, _, _ => False
  | n + 1, v2, outline, strokes, keys, inWord, word, letters => (p1_length ≤ v2 → P p1_length outline strokes keys inWord word letters) ∧ (¬ (p1_length ≤ v2) → wX6_at 60 p1_codes v2 (fun r_20 => wX4_reads r_20 (fun r_23 outline_23 strokes_23 keys_23 inWord_23 word_23 letters_23 => (¬ r_23 = 0 → (wX4_firstErrorOf_6 p1_codes p1_length P n) (v2 + 1) outline_23 strokes_23 keys_23 inWord_23 word_23 letters_23) ∧ (r_23 = 0 → P v2 outline_23 strokes_23 keys_23 inWord_23 word_23 letters_23)) outline strokes keys inWord word letters))
def wX4_firstErrorOf (p1_codes : Nat → Int32) (p1_length : Int32) (P : Int32 → Int64 → Int32 → Int32 → Int32 → Int64 → Int32 → Prop) (outline : Int64) (strokes : Int32) (keys : Int32) (inWord : Int32) (word : Int64) (letters : Int32) : Prop := wX4_restart (fun outline_1 strokes_1 keys_1 inWord_1 word_1 letters_1 => ∃ n_6, wX4_firstErrorOf_6 p1_codes p1_length P n_6 0 outline_1 strokes_1 keys_1 inWord_1 word_1 letters_1) outline strokes keys inWord word letters
set_option maxHeartbeats 4000000 in
set_option maxRecDepth 100000 in
theorem kX4_firstErrorOf (l : Launch) (g : kT) (a_this a_p1 a_p1_codes : Nat) (outline : Int64) (strokes : Int32) (keys : Int32) (inWord : Int32) (word : Int64) (letters : Int32) (p1_codes : Nat → Int32) (p1_length : Int32) (P : Int32 → Int64 → Int32 → Int32 → Int32 → Int64 → Int32 → Prop) (hw : wX4_firstErrorOf p1_codes p1_length P outline strokes keys inWord word letters) : Ki6 l g yX4_firstErrorOf wsX4_firstErrorOf 4 86 0 0 [.ref a_this, .ref a_p1] (gX4 g a_this outline strokes keys inWord word letters ++ (gX0 g a_p1 a_p1_codes p1_codes p1_length)) P (fun outline strokes keys inWord word letters => (gX4 g a_this outline strokes keys inWord word letters ++ (gX0 g a_p1 a_p1_codes p1_codes p1_length))) := by
  refine Ki6.mk (cc := cX4_firstErrorOf) (nL := 3) (ty := .int) (by decide +kernel) rfl (Nat.le_of_ble_eq_true rfl) ?_
  intro p e s m below meth c A Q ls F hl V ret
  have hx := F.x
  have hb := F.b
  have hl : lv_has ls 3 [(0, .ref a_this), (1, .ref a_p1)] := hl
  have B6 :  ∀ (n : Nat), ∀ {H : Heap} {locs : List Loc} {ls : Array Slot} (v2 : Int32) (outline : Int64) (strokes : Int32) (keys : Int32) (inWord : Int32) (word : Int64) (letters : Int32) (V : VW g A s.heap H locs (gX4 g a_this outline strokes keys inWord word letters ++ (gX0 g a_p1 a_p1_codes p1_codes p1_length))) (hl : lv_has ls 3 [(0, .ref a_this), (1, .ref a_p1), (2, .int v2)]) (hw : wX4_firstErrorOf_6 p1_codes p1_length P n v2 outline strokes keys inWord word letters), W p l e (kR 4 86 0 0) s m ([.ref a_this, .ref a_p1] : List Value).toArray below meth c H locs 0 0 Q (F0 m 6 ls []) := by
    intro n
    induction n with
    | zero => intro _ _ _ _ _ _ _ _ _ _ V hl hw; exact hw.elim
    | succ n ih =>
      intro H locs ls v2 outline strokes keys inWord word letters V hl hw
      refine lv_iload_n hx hb dX4_firstErrorOf_6 rfl (lv_at hl 2 rfl) ?_
      refine lv_aload_n hx hb dX4_firstErrorOf_7 rfl (lv_at hl 1 rfl) ?_
      refine kget F V 0 1 1 rfl rfl iX4_firstErrorOf_X0 fX4_firstErrorOf_35 (by decide) rfl rfl dX4_firstErrorOf_8 ?_
      refine lv_icmp_ge (tgt := 37) hx hb dX4_firstErrorOf_11 (by decide) (fun c_11 => ?_) (fun c_11 => ?_)
      · have hw := hw.1 c_11
        refine lv_aload_n hx hb dX4_firstErrorOf_37 rfl (lv_at hl 1 rfl) ?_
        refine kget F V 0 1 1 rfl rfl iX4_firstErrorOf_X0 fX4_firstErrorOf_35 (by decide) rfl rfl dX4_firstErrorOf_38 ?_
        exact ret _ _ _ _ _ _ _ _ _ _ _ rfl dX4_firstErrorOf_41 V hw
      · have hw := hw.2 c_11
        refine lv_aload_n hx hb dX4_firstErrorOf_14 rfl (lv_at hl 0 rfl) ?_
        refine lv_aload_n hx hb dX4_firstErrorOf_15 rfl (lv_at hl 1 rfl) ?_
        refine kget F V 0 0 1 rfl rfl iX4_firstErrorOf_X0 fX4_firstErrorOf_40 (by decide) rfl rfl dX4_firstErrorOf_16 ?_
        refine lv_iload_n hx hb dX4_firstErrorOf_19 rfl (lv_at hl 2 rfl) ?_
        refine kSi0 (rest := [.ref a_this]) F hl V [2] [0, 1] [0, 1, 2] (gX4 g a_this outline strokes keys inWord word letters ++ (gX0 g a_p1 a_p1_codes p1_codes p1_length)) (kX6_at l g a_p1_codes 60 p1_codes v2 _ hw) gX4_firstErrorOf_X6_at rfl 2 rfl hdX6_at rfl rfl (fun _ => rfl) rfl rfl rfl (by decide) ⟨Nat.le_of_ble_eq_true rfl, Nat.le_of_ble_eq_true rfl⟩ ⟨Nat.le_of_ble_eq_true rfl, Nat.le_of_ble_eq_true rfl⟩ (Nat.le_of_ble_eq_true rfl) rfl dX4_firstErrorOf_20 (fun r_20 H locs hw V => ?_)
        refine kVi6 (rest := []) F hl V [0] [1, 2] [2, 0, 1] (fun outline_23 strokes_23 keys_23 inWord_23 word_23 letters_23 => (gX4 g a_this outline_23 strokes_23 keys_23 inWord_23 word_23 letters_23 ++ (gX0 g a_p1 a_p1_codes p1_codes p1_length))) a_this 3 0 rfl rfl (kX4_reads l g a_this outline strokes keys inWord word letters r_20 _ hw) gX4_firstErrorOf_X4_reads rfl 1 rfl hdX4_reads rfl rfl (fun _ _ _ _ _ _ => rfl) rfl rfl rfl (by decide) ⟨Nat.le_of_ble_eq_true rfl, Nat.le_of_ble_eq_true rfl⟩ ⟨Nat.le_of_ble_eq_true rfl, Nat.le_of_ble_eq_true rfl⟩ (Nat.le_of_ble_eq_true rfl) rfl dX4_firstErrorOf_23 (fun r_23 outline_23 strokes_23 keys_23 inWord_23 word_23 letters_23 H locs hw V => ?_)
        refine lv_if_ne (tgt := 31) hx hb dX4_firstErrorOf_26 (by decide) (fun c_26 => ?_) (fun c_26 => ?_)
        · have hw := hw.1 c_26
          refine lv_iinc (v := v2 + 1) (lv' := [(2, .int (v2 + 1)), (0, .ref a_this), (1, .ref a_p1)]) hx hb dX4_firstErrorOf_31 hl (k := 2) rfl rfl (by decide) rfl (fun ls hl => ?_)
          refine lv_goto (tgt := 6) hx hb dX4_firstErrorOf_34 (by decide) ?_
          exact ih (v2 + 1) outline_23 strokes_23 keys_23 inWord_23 word_23 letters_23 V (lv_sub hl [1, 2, 0] rfl) hw
        · have hw := hw.2 c_26
          refine lv_iload_n hx hb dX4_firstErrorOf_29 rfl (lv_at hl 2 rfl) ?_
          exact ret _ _ _ _ _ _ _ _ _ _ _ rfl dX4_firstErrorOf_30 V hw
  refine lv_aload_n hx hb dX4_firstErrorOf_0 rfl (lv_at hl 0 rfl) ?_
  refine kVv6 (rest := []) F hl V [0] [1, 2] [2, 0, 1] (fun outline_1 strokes_1 keys_1 inWord_1 word_1 letters_1 => (gX4 g a_this outline_1 strokes_1 keys_1 inWord_1 word_1 letters_1 ++ (gX0 g a_p1 a_p1_codes p1_codes p1_length))) a_this 3 0 rfl rfl (kX4_restart l g a_this outline strokes keys inWord word letters _ hw) gX4_firstErrorOf_X4_restart rfl 0 rfl hdX4_restart rfl rfl (fun _ _ _ _ _ _ => rfl) rfl rfl rfl (by decide) ⟨Nat.le_of_ble_eq_true rfl, Nat.le_of_ble_eq_true rfl⟩ ⟨Nat.le_of_ble_eq_true rfl, Nat.le_of_ble_eq_true rfl⟩ (Nat.le_of_ble_eq_true rfl) rfl dX4_firstErrorOf_1 (fun outline_1 strokes_1 keys_1 inWord_1 word_1 letters_1 H locs hw V => ?_)
  refine lv_iconst (v := 0) hx hb dX4_firstErrorOf_4 (by decide) ?_
  refine lv_istore_n (lv' := [(2, .int 0), (0, .ref a_this), (1, .ref a_p1)]) hx hb dX4_firstErrorOf_5 rfl hl (by decide) rfl (fun ls hl => ?_)
  obtain ⟨n_6, hw⟩ := hw
  exact B6  n_6 0 outline_1 strokes_1 keys_1 inWord_1 word_1 letters_1 V (lv_sub hl [1, 2, 0] rfl) hw
theorem hdX11_firstError : yX11_firstError.cls = RX11 ∧ yX11_firstError.cls ≠ "java/lang/invoke/MethodHandle" ∧ yX11_firstError.cls ≠ "java/lang/invoke/VarHandle" ∧ (parseMethodDescriptor yX11_firstError.desc).map (fun d => d.parameters.length) = some 0 := by decide +kernel
theorem fX11_firstError_36 : Cond.fieldLink RX11 36 RX11 "reader" "LChordDesk$ListReader;" ∈ wsX11_firstError := by decide +kernel
theorem iX11_firstError_X11 : ∀ w ∈ u_ws RX11 TX11 6, w ∈ wsX11_firstError := by decide +kernel
theorem fX11_firstError_29 : Cond.fieldLink RX11 29 RX11 "buffer" "LChordDesk$Buffer;" ∈ wsX11_firstError := by decide +kernel
def wX11_firstError (buffer_codes : Nat → Int32) (buffer_length : Int32) (P : Int32 → Int64 → Int32 → Int32 → Int32 → Int64 → Int32 → Prop) (reader_outline : Int64) (reader_strokes : Int32) (reader_keys : Int32) (reader_inWord : Int32) (reader_word : Int64) (reader_letters : Int32) : Prop := wX4_firstErrorOf buffer_codes buffer_length (fun r_8 reader_outline_8 reader_strokes_8 reader_keys_8 reader_inWord_8 reader_word_8 reader_letters_8 => P r_8 reader_outline_8 reader_strokes_8 reader_keys_8 reader_inWord_8 reader_word_8 reader_letters_8) reader_outline reader_strokes reader_keys reader_inWord reader_word reader_letters
set_option maxHeartbeats 4000000 in
set_option maxRecDepth 100000 in
theorem kX11_firstError (l : Launch) (g : kT) (a_this a_this_now a_this_trial a_this_history a_this_buffer a_this_reader a_this_writing a_this_buffer_codes : Nat) (reader_outline : Int64) (reader_strokes : Int32) (reader_keys : Int32) (reader_inWord : Int32) (reader_word : Int64) (reader_letters : Int32) (buffer_codes : Nat → Int32) (buffer_length : Int32) (P : Int32 → Int64 → Int32 → Int32 → Int32 → Int64 → Int32 → Prop) (hw : wX11_firstError buffer_codes buffer_length P reader_outline reader_strokes reader_keys reader_inWord reader_word reader_letters) : Ki6 l g yX11_firstError wsX11_firstError 5 108 0 0 [.ref a_this] (gX11 g a_this a_this_now a_this_trial a_this_history a_this_buffer a_this_reader a_this_writing ++ (gX4 g a_this_reader reader_outline reader_strokes reader_keys reader_inWord reader_word reader_letters ++ (gX0 g a_this_buffer a_this_buffer_codes buffer_codes buffer_length))) P (fun reader_outline reader_strokes reader_keys reader_inWord reader_word reader_letters => (gX11 g a_this a_this_now a_this_trial a_this_history a_this_buffer a_this_reader a_this_writing ++ (gX4 g a_this_reader reader_outline reader_strokes reader_keys reader_inWord reader_word reader_letters ++ (gX0 g a_this_buffer a_this_buffer_codes buffer_codes buffer_length)))) := by
  refine Ki6.mk (cc := cX11_firstError) (nL := 1) (ty := .int) (by decide +kernel) rfl (Nat.le_of_ble_eq_true rfl) ?_
  intro p e s m below meth c A Q ls F hl V ret
  have hx := F.x
  have hb := F.b
  have hl : lv_has ls 1 [(0, .ref a_this)] := hl
  refine lv_aload_n hx hb dX11_firstError_0 rfl (lv_at hl 0 rfl) ?_
  refine kget F V 7 4 0 rfl rfl iX11_firstError_X11 fX11_firstError_36 (by decide) rfl rfl dX11_firstError_1 ?_
  refine lv_aload_n hx hb dX11_firstError_4 rfl (lv_at hl 0 rfl) ?_
  refine kget F V 7 3 0 rfl rfl iX11_firstError_X11 fX11_firstError_29 (by decide) rfl rfl dX11_firstError_5 ?_
  refine kVi6 (rest := []) F hl V [1, 2, 3] [0] [0, 1, 2, 3] (fun reader_outline_8 reader_strokes_8 reader_keys_8 reader_inWord_8 reader_word_8 reader_letters_8 => (gX11 g a_this a_this_now a_this_trial a_this_history a_this_buffer a_this_reader a_this_writing ++ (gX4 g a_this_reader reader_outline_8 reader_strokes_8 reader_keys_8 reader_inWord_8 reader_word_8 reader_letters_8 ++ (gX0 g a_this_buffer a_this_buffer_codes buffer_codes buffer_length)))) a_this_reader 3 1 rfl rfl (kX4_firstErrorOf l g a_this_reader a_this_buffer a_this_buffer_codes reader_outline reader_strokes reader_keys reader_inWord reader_word reader_letters buffer_codes buffer_length _ hw) gX11_firstError_X4_firstErrorOf rfl 1 rfl hdX4_firstErrorOf rfl rfl (fun _ _ _ _ _ _ => rfl) rfl rfl rfl (by decide) ⟨Nat.le_of_ble_eq_true rfl, Nat.le_of_ble_eq_true rfl⟩ ⟨Nat.le_of_ble_eq_true rfl, Nat.le_of_ble_eq_true rfl⟩ (Nat.le_of_ble_eq_true rfl) rfl dX11_firstError_8 (fun r_8 reader_outline_8 reader_strokes_8 reader_keys_8 reader_inWord_8 reader_word_8 reader_letters_8 H locs hw V => ?_)
  exact ret _ _ _ _ _ _ _ _ _ _ _ rfl dX11_firstError_11 V hw
theorem hdX6_put : yX6_put.cls ≠ "java/lang/invoke/MethodHandle" ∧ yX6_put.cls ≠ "java/lang/invoke/VarHandle" ∧ (parseMethodDescriptor yX6_put.desc).map (fun d => d.parameters.length) = some 3 := by decide +kernel
def wX6_put (p1_n : Nat) (p2 : Int32) (p3 : Int32) (P : (Nat → Int32) → Prop) (p1 : Nat → Int32) : Prop := (p2 < 0 → P p1) ∧ (¬ (p2 < 0) → ((nI p1_n) ≤ p2 → P p1) ∧ (¬ ((nI p1_n) ≤ p2) → vp_in p2 p1_n ∧ ∀ p1_13 : Nat → Int32, p1_13 = upd p1 p2.toNatClampNeg p3 → P p1_13))
set_option maxHeartbeats 4000000 in
set_option maxRecDepth 100000 in
theorem kX6_put (l : Launch) (g : kT) (a_p1 : Nat) (p1_n : Nat) (p1 : Nat → Int32) (p2 : Int32) (p3 : Int32) (P : (Nat → Int32) → Prop) (hw : wX6_put p1_n p2 p3 P p1) : Kv1 l g yX6_put wsX6_put 0 0 0 0 [.ref a_p1, .int p2, .int p3] (gAI g a_p1 p1_n p1) P (fun p1 => (gAI g a_p1 p1_n p1)) := by
  refine Kv1.mk (cc := cX6_put) (nL := 3) (by decide +kernel) rfl (Nat.le_of_ble_eq_true rfl) ?_
  intro p e s m below meth c A Q ls F hl V ret _
  have hx := F.x
  have hb := F.b
  have hl : lv_has ls 3 [(0, .ref a_p1), (1, .int p2), (2, .int p3)] := hl
  refine lv_iload_n hx hb dX6_put_0 rfl (lv_at hl 1 rfl) ?_
  refine lv_if_lt (tgt := 14) hx hb dX6_put_1 (by decide) (fun c_1 => ?_) (fun c_1 => ?_)
  · have hw := hw.1 c_1
    exact ret _ _ _ _ _ dX6_put_14 V hw
  · have hw := hw.2 c_1
    refine lv_iload_n hx hb dX6_put_4 rfl (lv_at hl 1 rfl) ?_
    refine lv_aload_n hx hb dX6_put_5 rfl (lv_at hl 0 rfl) ?_
    refine kialen F V 0 rfl dX6_put_6 ?_
    refine lv_icmp_ge (tgt := 14) hx hb dX6_put_7 (by decide) (fun c_7 => ?_) (fun c_7 => ?_)
    · have hw := hw.1 c_7
      exact ret _ _ _ _ _ dX6_put_14 V hw
    · have hw := hw.2 c_7
      refine lv_aload_n hx hb dX6_put_10 rfl (lv_at hl 0 rfl) ?_
      refine lv_iload_n hx hb dX6_put_11 rfl (lv_at hl 1 rfl) ?_
      refine lv_iload_n hx hb dX6_put_12 rfl (lv_at hl 2 rfl) ?_
      refine kiast F V 0 rfl hw.1 dX6_put_13 (fun p1_13 ep1_13 H locs V => ?_)
      have hw := hw.2 p1_13 ep1_13
      have V : VW g A s.heap H locs (gAI g a_p1 p1_n p1_13) := V
      exact ret _ _ _ _ _ dX6_put_14 V hw
theorem hdX6_at_ : yX6_at_.cls ≠ "java/lang/invoke/MethodHandle" ∧ yX6_at_.cls ≠ "java/lang/invoke/VarHandle" ∧ (parseMethodDescriptor yX6_at_.desc).map (fun d => d.parameters.length) = some 2 := by decide +kernel
def wX6_at_ (p1_n : Nat) (p1 : Nat → Int64) (p2 : Int32) (P : Int64 → Prop) : Prop := (p2 < 0 → P 0) ∧ (¬ (p2 < 0) → ((nI p1_n) ≤ p2 → P 0) ∧ (¬ ((nI p1_n) ≤ p2) → vp_in p2 p1_n ∧ P (p1 p2.toNatClampNeg)))
set_option maxHeartbeats 4000000 in
set_option maxRecDepth 100000 in
theorem kX6_at_ (l : Launch) (g : kT) (a_p1 : Nat) (p1_n : Nat) (p1 : Nat → Int64) (p2 : Int32) (P : Int64 → Prop) (hw : wX6_at_ p1_n p1 p2 P) : Kl0 l g yX6_at_ wsX6_at_ 0 0 0 0 [.ref a_p1, .int p2] (gAJ g a_p1 p1_n p1) P (gAJ g a_p1 p1_n p1) := by
  refine Kl0.mk (cc := cX6_at_) (nL := 2) (by decide +kernel) rfl (Nat.le_of_ble_eq_true rfl) ?_
  intro p e s m below meth c A Q ls F hl V ret
  have hx := F.x
  have hb := F.b
  have hl : lv_has ls 2 [(0, .ref a_p1), (1, .int p2)] := hl
  refine lv_iload_n hx hb dX6_at__0 rfl (lv_at hl 1 rfl) ?_
  refine lv_if_lt (tgt := 16) hx hb dX6_at__1 (by decide) (fun c_1 => ?_) (fun c_1 => ?_)
  · have hw := hw.1 c_1
    refine lv_lconst (v := 0) hx hb dX6_at__16 (by decide) ?_
    exact ret _ _ _ _ _ dX6_at__17 V hw
  · have hw := hw.2 c_1
    refine lv_iload_n hx hb dX6_at__4 rfl (lv_at hl 1 rfl) ?_
    refine lv_aload_n hx hb dX6_at__5 rfl (lv_at hl 0 rfl) ?_
    refine klalen F V 0 rfl dX6_at__6 ?_
    refine lv_icmp_ge (tgt := 16) hx hb dX6_at__7 (by decide) (fun c_7 => ?_) (fun c_7 => ?_)
    · have hw := hw.1 c_7
      refine lv_lconst (v := 0) hx hb dX6_at__16 (by decide) ?_
      exact ret _ _ _ _ _ dX6_at__17 V hw
    · have hw := hw.2 c_7
      refine lv_aload_n hx hb dX6_at__10 rfl (lv_at hl 0 rfl) ?_
      refine lv_iload_n hx hb dX6_at__11 rfl (lv_at hl 1 rfl) ?_
      refine klald F V 0 rfl hw.1 dX6_at__12 ?_
      have hw := hw.2
      refine lv_goto (tgt := 17) hx hb dX6_at__13 (by decide) ?_
      exact ret _ _ _ _ _ dX6_at__17 V hw
theorem hdX1_wordOf : yX1_wordOf.cls = RX1 ∧ yX1_wordOf.cls ≠ "java/lang/invoke/MethodHandle" ∧ yX1_wordOf.cls ≠ "java/lang/invoke/VarHandle" ∧ (parseMethodDescriptor yX1_wordOf.desc).map (fun d => d.parameters.length) = some 1 := by decide +kernel
theorem fX1_wordOf_15 : Cond.fieldLink RX1 15 RX1 "words" "[J" ∈ wsX1_wordOf := by decide +kernel
theorem iX1_wordOf_X1 : ∀ w ∈ u_ws RX1 TX1 3, w ∈ wsX1_wordOf := by decide +kernel
def wX1_wordOf (words : Nat → Int64) (p1 : Int32) (P : Int64 → Prop) : Prop := wX6_at_ 24 words p1 (fun r_5 => P r_5)
set_option maxHeartbeats 4000000 in
set_option maxRecDepth 100000 in
theorem kX1_wordOf (l : Launch) (g : kT) (a_this a_this_outlines a_this_words : Nat) (outlines : Nat → Int64) (words : Nat → Int64) (size : Int32) (p1 : Int32) (P : Int64 → Prop) (hw : wX1_wordOf words p1 P) : Kl0 l g yX1_wordOf wsX1_wordOf 1 21 0 0 [.ref a_this, .int p1] (gX1 g a_this a_this_outlines a_this_words outlines words size) P (gX1 g a_this a_this_outlines a_this_words outlines words size) := by
  refine Kl0.mk (cc := cX1_wordOf) (nL := 2) (by decide +kernel) rfl (Nat.le_of_ble_eq_true rfl) ?_
  intro p e s m below meth c A Q ls F hl V ret
  have hx := F.x
  have hb := F.b
  have hl : lv_has ls 2 [(0, .ref a_this), (1, .int p1)] := hl
  refine lv_aload_n hx hb dX1_wordOf_0 rfl (lv_at hl 0 rfl) ?_
  refine kget F V 1 1 0 rfl rfl iX1_wordOf_X1 fX1_wordOf_15 (by decide) rfl rfl dX1_wordOf_1 ?_
  refine lv_iload_n hx hb dX1_wordOf_4 rfl (lv_at hl 1 rfl) ?_
  refine kSl0 (rest := []) F hl V [2] [0, 1] [0, 1, 2] (gX1 g a_this a_this_outlines a_this_words outlines words size) (kX6_at_ l g a_this_words 24 words p1 _ hw) gX1_wordOf_X6_at_ rfl 2 rfl hdX6_at_ rfl rfl (fun _ => rfl) rfl rfl rfl (by decide) ⟨Nat.le_of_ble_eq_true rfl, Nat.le_of_ble_eq_true rfl⟩ ⟨Nat.le_of_ble_eq_true rfl, Nat.le_of_ble_eq_true rfl⟩ (Nat.le_of_ble_eq_true rfl) rfl dX1_wordOf_5 (fun r_5 H locs hw V => ?_)
  exact ret _ _ _ _ _ dX1_wordOf_8 V hw
theorem hdX9_letterOf : yX9_letterOf.cls ≠ "java/lang/invoke/MethodHandle" ∧ yX9_letterOf.cls ≠ "java/lang/invoke/VarHandle" ∧ (parseMethodDescriptor yX9_letterOf.desc).map (fun d => d.parameters.length) = some 2 := by decide +kernel
def wX9_letterOf (p1 : Int64) (p2 : Int32) (P : Int32 → Prop) : Prop := P ((((p1.toUInt64 >>> ((p2 * 8).toInt64.toUInt64 &&& Int64.toUInt64 63)).toInt64).toInt32) &&& 255)
set_option maxHeartbeats 4000000 in
set_option maxRecDepth 100000 in
theorem kX9_letterOf (l : Launch) (g : kT) (p1 : Int64) (p2 : Int32) (P : Int32 → Prop) (hw : wX9_letterOf p1 p2 P) : Ki0 l g yX9_letterOf wsX9_letterOf 0 0 0 0 [.long p1, .int p2] [] P [] := by
  refine Ki0.mk (cc := cX9_letterOf) (nL := 3) (ty := .int) (by decide +kernel) rfl (Nat.le_of_ble_eq_true rfl) ?_
  intro p e s m below meth c A Q ls F hl V ret
  have hx := F.x
  have hb := F.b
  have hl : lv_has ls 3 [(0, .long p1), (2, .int p2)] := hl
  refine lv_lload_n hx hb dX9_letterOf_0 rfl (lv_at hl 0 rfl) ?_
  refine lv_iload_n hx hb dX9_letterOf_1 rfl (lv_at hl 1 rfl) ?_
  refine lv_bipush (v := 8) hx hb dX9_letterOf_2 (by decide) ?_
  refine lv_imul hx hb dX9_letterOf_4 ?_
  refine lv_lushr hx hb dX9_letterOf_5 rfl ?_
  refine lv_l2i hx hb dX9_letterOf_6 rfl ?_
  refine lv_sipush (v := 255) hx hb dX9_letterOf_7 (by decide) ?_
  refine lv_iand hx hb dX9_letterOf_10 ?_
  exact ret _ _ _ _ _ rfl dX9_letterOf_11 V hw
theorem hdX9_length : yX9_length.cls ≠ "java/lang/invoke/MethodHandle" ∧ yX9_length.cls ≠ "java/lang/invoke/VarHandle" ∧ (parseMethodDescriptor yX9_length.desc).map (fun d => d.parameters.length) = some 1 := by decide +kernel
def wX9_length_21 (p1 : Int64) (K4 : Int32 → Int32 → Prop) (P : Int32 → Prop) (v2 : Int32) (v3 : Int32) : Prop := K4 v2 (v3 + 1)
def wX9_length_4 (p1 : Int64) (P : Int32 → Prop) : Nat → Int32 → Int32 → Prop
  | 0, _, _ => False
  | n + 1, v2, v3 => (8 ≤ v3 → P v2) ∧ (¬ (8 ≤ v3) → wX9_letterOf p1 v3 (fun r_12 => (r_12 = 0 → wX9_length_21 p1 (wX9_length_4 p1 P n) P v2 v3) ∧ (¬ (r_12 = 0) → wX9_length_21 p1 (wX9_length_4 p1 P n) P (v2 + 1) v3)))
def wX9_length (p1 : Int64) (P : Int32 → Prop) : Prop := ∃ n_4, wX9_length_4 p1 P n_4 0 0
set_option maxHeartbeats 4000000 in
set_option maxRecDepth 100000 in
theorem kX9_length (l : Launch) (g : kT) (p1 : Int64) (P : Int32 → Prop) (hw : wX9_length p1 P) : Ki0 l g yX9_length wsX9_length 1 22 0 0 [.long p1] [] P [] := by
  refine Ki0.mk (cc := cX9_length) (nL := 4) (ty := .int) (by decide +kernel) rfl (Nat.le_of_ble_eq_true rfl) ?_
  intro p e s m below meth c A Q ls F hl V ret
  have hx := F.x
  have hb := F.b
  have hl : lv_has ls 4 [(0, .long p1)] := hl
  have B21 : ∀ (K4 : Int32 → Int32 → Prop) (k4 : ∀ {H : Heap} {locs : List Loc} {ls : Array Slot} (v2 : Int32) (v3 : Int32), VW g A s.heap H locs [] → lv_has ls 4 [(0, .long p1), (2, .int v2), (3, .int v3)] → K4 v2 v3 → W p l e (kR 1 22 0 0) s m ([.long p1] : List Value).toArray below meth c H locs 0 0 Q (F0 m 4 ls [])), ∀ {H : Heap} {locs : List Loc} {ls : Array Slot} (v2 : Int32) (v3 : Int32) (V : VW g A s.heap H locs []) (hl : lv_has ls 4 [(0, .long p1), (2, .int v2), (3, .int v3)]) (hw : wX9_length_21 p1 K4 P v2 v3), W p l e (kR 1 22 0 0) s m ([.long p1] : List Value).toArray below meth c H locs 0 0 Q (F0 m 21 ls []) := by
    intro K4 k4 H locs ls v2 v3 V hl hw
    refine lv_iinc (v := v3 + 1) (lv' := [(3, .int (v3 + 1)), (0, .long p1), (2, .int v2)]) hx hb dX9_length_21 hl (k := 2) rfl rfl (by decide) rfl (fun ls hl => ?_)
    refine lv_goto (tgt := 4) hx hb dX9_length_24 (by decide) ?_
    exact k4 v2 (v3 + 1) V (lv_sub hl [1, 2, 0] rfl) hw
  have B4 :  ∀ (n : Nat), ∀ {H : Heap} {locs : List Loc} {ls : Array Slot} (v2 : Int32) (v3 : Int32) (V : VW g A s.heap H locs []) (hl : lv_has ls 4 [(0, .long p1), (2, .int v2), (3, .int v3)]) (hw : wX9_length_4 p1 P n v2 v3), W p l e (kR 1 22 0 0) s m ([.long p1] : List Value).toArray below meth c H locs 0 0 Q (F0 m 4 ls []) := by
    intro n
    induction n with
    | zero => intro _ _ _ _ _ V hl hw; exact hw.elim
    | succ n ih =>
      intro H locs ls v2 v3 V hl hw
      refine lv_iload_n hx hb dX9_length_4 rfl (lv_at hl 2 rfl) ?_
      refine lv_bipush (v := 8) hx hb dX9_length_5 (by decide) ?_
      refine lv_icmp_ge (tgt := 27) hx hb dX9_length_7 (by decide) (fun c_7 => ?_) (fun c_7 => ?_)
      · have hw := hw.1 c_7
        refine lv_iload_n hx hb dX9_length_27 rfl (lv_at hl 1 rfl) ?_
        exact ret _ _ _ _ _ rfl dX9_length_28 V hw
      · have hw := hw.2 c_7
        refine lv_lload_n hx hb dX9_length_10 rfl (lv_at hl 0 rfl) ?_
        refine lv_iload_n hx hb dX9_length_11 rfl (lv_at hl 2 rfl) ?_
        refine kSi0n (rest := []) F hl V (kX9_letterOf l g p1 v3 _ hw) gX9_length_X9_letterOf rfl 2 rfl hdX9_letterOf ⟨Nat.le_of_ble_eq_true rfl, Nat.le_of_ble_eq_true rfl⟩ ⟨Nat.le_of_ble_eq_true rfl, Nat.le_of_ble_eq_true rfl⟩ (Nat.le_of_ble_eq_true rfl) rfl dX9_length_12 (fun r_12 H locs hw V => ?_)
        refine lv_if_eq (tgt := 21) hx hb dX9_length_15 (by decide) (fun c_15 => ?_) (fun c_15 => ?_)
        · have hw := hw.1 c_15
          exact B21 (wX9_length_4 p1 P n) ih v2 v3 V hl hw
        · have hw := hw.2 c_15
          refine lv_iinc (v := v2 + 1) (lv' := [(2, .int (v2 + 1)), (0, .long p1), (3, .int v3)]) hx hb dX9_length_18 hl (k := 1) rfl rfl (by decide) rfl (fun ls hl => ?_)
          exact B21 (wX9_length_4 p1 P n) ih (v2 + 1) v3 V (lv_sub hl [1, 0, 2] rfl) hw
  refine lv_iconst (v := 0) hx hb dX9_length_0 (by decide) ?_
  refine lv_istore_n (lv' := [(2, .int 0), (0, .long p1)]) hx hb dX9_length_1 rfl hl (by decide) rfl (fun ls hl => ?_)
  refine lv_iconst (v := 0) hx hb dX9_length_2 (by decide) ?_
  refine lv_istore_n (lv' := [(3, .int 0), (2, .int 0), (0, .long p1)]) hx hb dX9_length_3 rfl hl (by decide) rfl (fun ls hl => ?_)
  obtain ⟨n_4, hw⟩ := hw
  exact B4  n_4 0 0 V (lv_sub hl [2, 1, 0] rfl) hw
theorem hdX0_hasAt : yX0_hasAt.cls = RX0 ∧ yX0_hasAt.cls ≠ "java/lang/invoke/MethodHandle" ∧ yX0_hasAt.cls ≠ "java/lang/invoke/VarHandle" ∧ (parseMethodDescriptor yX0_hasAt.desc).map (fun d => d.parameters.length) = some 2 := by decide +kernel
theorem fX0_hasAt_15 : Cond.fieldLink RX0 15 RX0 "length" "I" ∈ wsX0_hasAt := by decide +kernel
theorem iX0_hasAt_X0 : ∀ w ∈ u_ws RX0 TX0 2, w ∈ wsX0_hasAt := by decide +kernel
theorem fX0_hasAt_9 : Cond.fieldLink RX0 9 RX0 "codes" "[I" ∈ wsX0_hasAt := by decide +kernel
def wX0_hasAt_22 (codes : Nat → Int32) (length : Int32) (p1 : Int32) (p2 : Int64) (P : Int32 → Prop) : Nat → Int32 → Int32 → Prop
  | 0, _, _ => False
  | n + 1, v4, v5 => (v4 ≤ v5 → P 1) ∧ (¬ (v4 ≤ v5) → wX6_at 60 codes (p1 + v5) (fun r_37 => wX9_letterOf p2 v5 (fun r_43 => (r_37 = r_43 → (wX0_hasAt_22 codes length p1 p2 P n) v4 (v5 + 1)) ∧ (¬ (r_37 = r_43) → P 0))))
def wX0_hasAt (codes : Nat → Int32) (length : Int32) (p1 : Int32) (p2 : Int64) (P : Int32 → Prop) : Prop := wX9_length p2 (fun r_1 => ((p1 + r_1) ≤ length → ∃ n_22, wX0_hasAt_22 codes length p1 p2 P n_22 r_1 0) ∧ (¬ ((p1 + r_1) ≤ length) → P 0))
set_option maxHeartbeats 4000000 in
set_option maxRecDepth 100000 in
theorem kX0_hasAt (l : Launch) (g : kT) (a_this a_this_codes : Nat) (codes : Nat → Int32) (length : Int32) (p1 : Int32) (p2 : Int64) (P : Int32 → Prop) (hw : wX0_hasAt codes length p1 p2 P) : Ki0 l g yX0_hasAt wsX0_hasAt 2 45 0 0 [.ref a_this, .int p1, .long p2] (gX0 g a_this a_this_codes codes length) P (gX0 g a_this a_this_codes codes length) := by
  refine Ki0.mk (cc := cX0_hasAt) (nL := 6) (ty := .boolean) (by decide +kernel) rfl (Nat.le_of_ble_eq_true rfl) ?_
  intro p e s m below meth c A Q ls F hl V ret
  have hx := F.x
  have hb := F.b
  have hl : lv_has ls 6 [(0, .ref a_this), (1, .int p1), (2, .long p2)] := hl
  have B22 :  ∀ (n : Nat), ∀ {H : Heap} {locs : List Loc} {ls : Array Slot} (v4 : Int32) (v5 : Int32) (V : VW g A s.heap H locs (gX0 g a_this a_this_codes codes length)) (hl : lv_has ls 6 [(0, .ref a_this), (1, .int p1), (2, .long p2), (4, .int v4), (5, .int v5)]) (hw : wX0_hasAt_22 codes length p1 p2 P n v4 v5), W p l e (kR 2 45 0 0) s m ([.ref a_this, .int p1, .long p2] : List Value).toArray below meth c H locs 0 0 Q (F0 m 22 ls []) := by
    intro n
    induction n with
    | zero => intro _ _ _ _ _ V hl hw; exact hw.elim
    | succ n ih =>
      intro H locs ls v4 v5 V hl hw
      refine lv_iload hx hb dX0_hasAt_22 (lv_at hl 4 rfl) ?_
      refine lv_iload hx hb dX0_hasAt_24 (lv_at hl 3 rfl) ?_
      refine lv_icmp_ge (tgt := 57) hx hb dX0_hasAt_26 (by decide) (fun c_26 => ?_) (fun c_26 => ?_)
      · have hw := hw.1 c_26
        refine lv_iconst (v := 1) hx hb dX0_hasAt_57 (by decide) ?_
        exact ret _ _ _ _ _ rfl dX0_hasAt_58 V hw
      · have hw := hw.2 c_26
        refine lv_aload_n hx hb dX0_hasAt_29 rfl (lv_at hl 0 rfl) ?_
        refine kget F V 0 0 0 rfl rfl iX0_hasAt_X0 fX0_hasAt_9 (by decide) rfl rfl dX0_hasAt_30 ?_
        refine lv_iload_n hx hb dX0_hasAt_33 rfl (lv_at hl 1 rfl) ?_
        refine lv_iload hx hb dX0_hasAt_34 (lv_at hl 4 rfl) ?_
        refine lv_iadd hx hb dX0_hasAt_36 ?_
        refine kSi0 (rest := []) F hl V [1] [0] [0, 1] (gX0 g a_this a_this_codes codes length) (kX6_at l g a_this_codes 60 codes (p1 + v5) _ hw) gX0_hasAt_X6_at rfl 2 rfl hdX6_at rfl rfl (fun _ => rfl) rfl rfl rfl (by decide) ⟨Nat.le_of_ble_eq_true rfl, Nat.le_of_ble_eq_true rfl⟩ ⟨Nat.le_of_ble_eq_true rfl, Nat.le_of_ble_eq_true rfl⟩ (Nat.le_of_ble_eq_true rfl) rfl dX0_hasAt_37 (fun r_37 H locs hw V => ?_)
        refine lv_lload_n hx hb dX0_hasAt_40 rfl (lv_at hl 2 rfl) ?_
        refine lv_iload hx hb dX0_hasAt_41 (lv_at hl 4 rfl) ?_
        refine kSi0n (rest := [.int r_37]) F hl V (kX9_letterOf l g p2 v5 _ hw) gX0_hasAt_X9_letterOf rfl 2 rfl hdX9_letterOf ⟨Nat.le_of_ble_eq_true rfl, Nat.le_of_ble_eq_true rfl⟩ ⟨Nat.le_of_ble_eq_true rfl, Nat.le_of_ble_eq_true rfl⟩ (Nat.le_of_ble_eq_true rfl) rfl dX0_hasAt_43 (fun r_43 H locs hw V => ?_)
        refine lv_icmp_eq (tgt := 51) hx hb dX0_hasAt_46 (by decide) (fun c_46 => ?_) (fun c_46 => ?_)
        · have hw := hw.1 c_46
          refine lv_iinc (v := v5 + 1) (lv' := [(5, .int (v5 + 1)), (0, .ref a_this), (1, .int p1), (2, .long p2), (4, .int v4)]) hx hb dX0_hasAt_51 hl (k := 4) rfl rfl (by decide) rfl (fun ls hl => ?_)
          refine lv_goto (tgt := 22) hx hb dX0_hasAt_54 (by decide) ?_
          exact ih v4 (v5 + 1) V (lv_sub hl [1, 2, 3, 4, 0] rfl) hw
        · have hw := hw.2 c_46
          refine lv_iconst (v := 0) hx hb dX0_hasAt_49 (by decide) ?_
          exact ret _ _ _ _ _ rfl dX0_hasAt_50 V hw
  refine lv_lload_n hx hb dX0_hasAt_0 rfl (lv_at hl 2 rfl) ?_
  refine kSi0n (rest := []) F hl V (kX9_length l g p2 _ hw) gX0_hasAt_X9_length rfl 1 rfl hdX9_length ⟨Nat.le_of_ble_eq_true rfl, Nat.le_of_ble_eq_true rfl⟩ ⟨Nat.le_of_ble_eq_true rfl, Nat.le_of_ble_eq_true rfl⟩ (Nat.le_of_ble_eq_true rfl) rfl dX0_hasAt_1 (fun r_1 H locs hw V => ?_)
  refine lv_istore (lv' := [(4, .int r_1), (0, .ref a_this), (1, .int p1), (2, .long p2)]) hx hb dX0_hasAt_4 hl (by decide) rfl (fun ls hl => ?_)
  refine lv_iload_n hx hb dX0_hasAt_6 rfl (lv_at hl 2 rfl) ?_
  refine lv_iload hx hb dX0_hasAt_7 (lv_at hl 0 rfl) ?_
  refine lv_iadd hx hb dX0_hasAt_9 ?_
  refine lv_aload_n hx hb dX0_hasAt_10 rfl (lv_at hl 1 rfl) ?_
  refine kget F V 0 1 0 rfl rfl iX0_hasAt_X0 fX0_hasAt_15 (by decide) rfl rfl dX0_hasAt_11 ?_
  refine lv_icmp_le (tgt := 19) hx hb dX0_hasAt_14 (by decide) (fun c_14 => ?_) (fun c_14 => ?_)
  · have hw := hw.1 c_14
    refine lv_iconst (v := 0) hx hb dX0_hasAt_19 (by decide) ?_
    refine lv_istore (lv' := [(5, .int 0), (4, .int r_1), (0, .ref a_this), (1, .int p1), (2, .long p2)]) hx hb dX0_hasAt_20 hl (by decide) rfl (fun ls hl => ?_)
    obtain ⟨n_22, hw⟩ := hw
    exact B22  n_22 r_1 0 V (lv_sub hl [2, 3, 4, 1, 0] rfl) hw
  · have hw := hw.2 c_14
    refine lv_iconst (v := 0) hx hb dX0_hasAt_17 (by decide) ?_
    exact ret _ _ _ _ _ rfl dX0_hasAt_18 V hw
theorem hdX1_outlineOf : yX1_outlineOf.cls = RX1 ∧ yX1_outlineOf.cls ≠ "java/lang/invoke/MethodHandle" ∧ yX1_outlineOf.cls ≠ "java/lang/invoke/VarHandle" ∧ (parseMethodDescriptor yX1_outlineOf.desc).map (fun d => d.parameters.length) = some 1 := by decide +kernel
theorem fX1_outlineOf_9 : Cond.fieldLink RX1 9 RX1 "outlines" "[J" ∈ wsX1_outlineOf := by decide +kernel
theorem iX1_outlineOf_X1 : ∀ w ∈ u_ws RX1 TX1 3, w ∈ wsX1_outlineOf := by decide +kernel
def wX1_outlineOf (outlines : Nat → Int64) (p1 : Int32) (P : Int64 → Prop) : Prop := wX6_at_ 24 outlines p1 (fun r_5 => P r_5)
set_option maxHeartbeats 4000000 in
set_option maxRecDepth 100000 in
theorem kX1_outlineOf (l : Launch) (g : kT) (a_this a_this_outlines a_this_words : Nat) (outlines : Nat → Int64) (words : Nat → Int64) (size : Int32) (p1 : Int32) (P : Int64 → Prop) (hw : wX1_outlineOf outlines p1 P) : Kl0 l g yX1_outlineOf wsX1_outlineOf 1 21 0 0 [.ref a_this, .int p1] (gX1 g a_this a_this_outlines a_this_words outlines words size) P (gX1 g a_this a_this_outlines a_this_words outlines words size) := by
  refine Kl0.mk (cc := cX1_outlineOf) (nL := 2) (by decide +kernel) rfl (Nat.le_of_ble_eq_true rfl) ?_
  intro p e s m below meth c A Q ls F hl V ret
  have hx := F.x
  have hb := F.b
  have hl : lv_has ls 2 [(0, .ref a_this), (1, .int p1)] := hl
  refine lv_aload_n hx hb dX1_outlineOf_0 rfl (lv_at hl 0 rfl) ?_
  refine kget F V 1 0 0 rfl rfl iX1_outlineOf_X1 fX1_outlineOf_9 (by decide) rfl rfl dX1_outlineOf_1 ?_
  refine lv_iload_n hx hb dX1_outlineOf_4 rfl (lv_at hl 1 rfl) ?_
  refine kSl0 (rest := []) F hl V [1] [0, 2] [0, 2, 1] (gX1 g a_this a_this_outlines a_this_words outlines words size) (kX6_at_ l g a_this_outlines 24 outlines p1 _ hw) gX1_outlineOf_X6_at_ rfl 2 rfl hdX6_at_ rfl rfl (fun _ => rfl) rfl rfl rfl (by decide) ⟨Nat.le_of_ble_eq_true rfl, Nat.le_of_ble_eq_true rfl⟩ ⟨Nat.le_of_ble_eq_true rfl, Nat.le_of_ble_eq_true rfl⟩ (Nat.le_of_ble_eq_true rfl) rfl dX1_outlineOf_5 (fun r_5 H locs hw V => ?_)
  exact ret _ _ _ _ _ dX1_outlineOf_8 V hw
theorem hdX5_strokeOf : yX5_strokeOf.cls ≠ "java/lang/invoke/MethodHandle" ∧ yX5_strokeOf.cls ≠ "java/lang/invoke/VarHandle" ∧ (parseMethodDescriptor yX5_strokeOf.desc).map (fun d => d.parameters.length) = some 2 := by decide +kernel
def wX5_strokeOf (p1 : Int64) (p2 : Int32) (P : Int32 → Prop) : Prop := P ((((p1.toUInt64 >>> ((p2 * 12).toInt64.toUInt64 &&& Int64.toUInt64 63)).toInt64).toInt32) &&& 4095)
set_option maxHeartbeats 4000000 in
set_option maxRecDepth 100000 in
theorem kX5_strokeOf (l : Launch) (g : kT) (p1 : Int64) (p2 : Int32) (P : Int32 → Prop) (hw : wX5_strokeOf p1 p2 P) : Ki0 l g yX5_strokeOf wsX5_strokeOf 0 0 0 0 [.long p1, .int p2] [] P [] := by
  refine Ki0.mk (cc := cX5_strokeOf) (nL := 3) (ty := .int) (by decide +kernel) rfl (Nat.le_of_ble_eq_true rfl) ?_
  intro p e s m below meth c A Q ls F hl V ret
  have hx := F.x
  have hb := F.b
  have hl : lv_has ls 3 [(0, .long p1), (2, .int p2)] := hl
  refine lv_lload_n hx hb dX5_strokeOf_0 rfl (lv_at hl 0 rfl) ?_
  refine lv_iload_n hx hb dX5_strokeOf_1 rfl (lv_at hl 1 rfl) ?_
  refine lv_bipush (v := 12) hx hb dX5_strokeOf_2 (by decide) ?_
  refine lv_imul hx hb dX5_strokeOf_4 ?_
  refine lv_lushr hx hb dX5_strokeOf_5 rfl ?_
  refine lv_l2i hx hb dX5_strokeOf_6 rfl ?_
  refine lv_sipush (v := 4095) hx hb dX5_strokeOf_7 (by decide) ?_
  refine lv_iand hx hb dX5_strokeOf_10 ?_
  exact ret _ _ _ _ _ rfl dX5_strokeOf_11 V hw
theorem hdX5_length : yX5_length.cls ≠ "java/lang/invoke/MethodHandle" ∧ yX5_length.cls ≠ "java/lang/invoke/VarHandle" ∧ (parseMethodDescriptor yX5_length.desc).map (fun d => d.parameters.length) = some 1 := by decide +kernel
def wX5_length_20 (p1 : Int64) (K4 : Int32 → Int32 → Prop) (P : Int32 → Prop) (v2 : Int32) (v3 : Int32) : Prop := K4 v2 (v3 + 1)
def wX5_length_4 (p1 : Int64) (P : Int32 → Prop) : Nat → Int32 → Int32 → Prop
  | 0, _, _ => False
  | n + 1, v2, v3 => (4 ≤ v3 → P v2) ∧ (¬ (4 ≤ v3) → wX5_strokeOf p1 v3 (fun r_11 => (r_11 = 0 → wX5_length_20 p1 (wX5_length_4 p1 P n) P v2 v3) ∧ (¬ (r_11 = 0) → wX5_length_20 p1 (wX5_length_4 p1 P n) P (v2 + 1) v3)))
def wX5_length (p1 : Int64) (P : Int32 → Prop) : Prop := ∃ n_4, wX5_length_4 p1 P n_4 0 0
set_option maxHeartbeats 4000000 in
set_option maxRecDepth 100000 in
theorem kX5_length (l : Launch) (g : kT) (p1 : Int64) (P : Int32 → Prop) (hw : wX5_length p1 P) : Ki0 l g yX5_length wsX5_length 1 22 0 0 [.long p1] [] P [] := by
  refine Ki0.mk (cc := cX5_length) (nL := 4) (ty := .int) (by decide +kernel) rfl (Nat.le_of_ble_eq_true rfl) ?_
  intro p e s m below meth c A Q ls F hl V ret
  have hx := F.x
  have hb := F.b
  have hl : lv_has ls 4 [(0, .long p1)] := hl
  have B20 : ∀ (K4 : Int32 → Int32 → Prop) (k4 : ∀ {H : Heap} {locs : List Loc} {ls : Array Slot} (v2 : Int32) (v3 : Int32), VW g A s.heap H locs [] → lv_has ls 4 [(0, .long p1), (2, .int v2), (3, .int v3)] → K4 v2 v3 → W p l e (kR 1 22 0 0) s m ([.long p1] : List Value).toArray below meth c H locs 0 0 Q (F0 m 4 ls [])), ∀ {H : Heap} {locs : List Loc} {ls : Array Slot} (v2 : Int32) (v3 : Int32) (V : VW g A s.heap H locs []) (hl : lv_has ls 4 [(0, .long p1), (2, .int v2), (3, .int v3)]) (hw : wX5_length_20 p1 K4 P v2 v3), W p l e (kR 1 22 0 0) s m ([.long p1] : List Value).toArray below meth c H locs 0 0 Q (F0 m 20 ls []) := by
    intro K4 k4 H locs ls v2 v3 V hl hw
    refine lv_iinc (v := v3 + 1) (lv' := [(3, .int (v3 + 1)), (0, .long p1), (2, .int v2)]) hx hb dX5_length_20 hl (k := 2) rfl rfl (by decide) rfl (fun ls hl => ?_)
    refine lv_goto (tgt := 4) hx hb dX5_length_23 (by decide) ?_
    exact k4 v2 (v3 + 1) V (lv_sub hl [1, 2, 0] rfl) hw
  have B4 :  ∀ (n : Nat), ∀ {H : Heap} {locs : List Loc} {ls : Array Slot} (v2 : Int32) (v3 : Int32) (V : VW g A s.heap H locs []) (hl : lv_has ls 4 [(0, .long p1), (2, .int v2), (3, .int v3)]) (hw : wX5_length_4 p1 P n v2 v3), W p l e (kR 1 22 0 0) s m ([.long p1] : List Value).toArray below meth c H locs 0 0 Q (F0 m 4 ls []) := by
    intro n
    induction n with
    | zero => intro _ _ _ _ _ V hl hw; exact hw.elim
    | succ n ih =>
      intro H locs ls v2 v3 V hl hw
      refine lv_iload_n hx hb dX5_length_4 rfl (lv_at hl 2 rfl) ?_
      refine lv_iconst (v := 4) hx hb dX5_length_5 (by decide) ?_
      refine lv_icmp_ge (tgt := 26) hx hb dX5_length_6 (by decide) (fun c_6 => ?_) (fun c_6 => ?_)
      · have hw := hw.1 c_6
        refine lv_iload_n hx hb dX5_length_26 rfl (lv_at hl 1 rfl) ?_
        exact ret _ _ _ _ _ rfl dX5_length_27 V hw
      · have hw := hw.2 c_6
        refine lv_lload_n hx hb dX5_length_9 rfl (lv_at hl 0 rfl) ?_
        refine lv_iload_n hx hb dX5_length_10 rfl (lv_at hl 2 rfl) ?_
        refine kSi0n (rest := []) F hl V (kX5_strokeOf l g p1 v3 _ hw) gX5_length_X5_strokeOf rfl 2 rfl hdX5_strokeOf ⟨Nat.le_of_ble_eq_true rfl, Nat.le_of_ble_eq_true rfl⟩ ⟨Nat.le_of_ble_eq_true rfl, Nat.le_of_ble_eq_true rfl⟩ (Nat.le_of_ble_eq_true rfl) rfl dX5_length_11 (fun r_11 H locs hw V => ?_)
        refine lv_if_eq (tgt := 20) hx hb dX5_length_14 (by decide) (fun c_14 => ?_) (fun c_14 => ?_)
        · have hw := hw.1 c_14
          exact B20 (wX5_length_4 p1 P n) ih v2 v3 V hl hw
        · have hw := hw.2 c_14
          refine lv_iinc (v := v2 + 1) (lv' := [(2, .int (v2 + 1)), (0, .long p1), (3, .int v3)]) hx hb dX5_length_17 hl (k := 1) rfl rfl (by decide) rfl (fun ls hl => ?_)
          exact B20 (wX5_length_4 p1 P n) ih (v2 + 1) v3 V (lv_sub hl [1, 0, 2] rfl) hw
  refine lv_iconst (v := 0) hx hb dX5_length_0 (by decide) ?_
  refine lv_istore_n (lv' := [(2, .int 0), (0, .long p1)]) hx hb dX5_length_1 rfl hl (by decide) rfl (fun ls hl => ?_)
  refine lv_iconst (v := 0) hx hb dX5_length_2 (by decide) ?_
  refine lv_istore_n (lv' := [(3, .int 0), (2, .int 0), (0, .long p1)]) hx hb dX5_length_3 rfl hl (by decide) rfl (fun ls hl => ?_)
  obtain ⟨n_4, hw⟩ := hw
  exact B4  n_4 0 0 V (lv_sub hl [2, 1, 0] rfl) hw
theorem hdX10_fewestWith : yX10_fewestWith.cls = RX10 ∧ yX10_fewestWith.cls ≠ "java/lang/invoke/MethodHandle" ∧ yX10_fewestWith.cls ≠ "java/lang/invoke/VarHandle" ∧ (parseMethodDescriptor yX10_fewestWith.desc).map (fun d => d.parameters.length) = some 4 := by decide +kernel
theorem fX10_fewestWith_9 : Cond.fieldLink RX10 9 RX10 "fewest" "[I" ∈ wsX10_fewestWith := by decide +kernel
theorem iX10_fewestWith_X10 : ∀ w ∈ u_ws RX10 TX10 3, w ∈ wsX10_fewestWith := by decide +kernel
def wX10_fewestWith (fewest : Nat → Int32) (p3_codes : Nat → Int32) (p3_length : Int32) (p4_outlines : Nat → Int64) (p4_words : Nat → Int64) (p1 : Int32) (p2 : Int32) (P : Int32 → Prop) : Prop := wX1_wordOf p4_words p1 (fun r_3 => wX0_hasAt p3_codes p3_length p2 r_3 (fun r_12 => (¬ r_12 = 0 → wX9_length r_3 (fun r_27 => wX6_at 61 fewest (p2 + r_27) (fun r_31 => (¬ r_31 = (-1) → wX1_outlineOf p4_outlines p1 (fun r_49 => wX5_length r_49 (fun r_52 => P (r_52 + r_31)))) ∧ (r_31 = (-1) → P (-1))))) ∧ (r_12 = 0 → P (-1))))
set_option maxHeartbeats 4000000 in
set_option maxRecDepth 100000 in
theorem kX10_fewestWith (l : Launch) (g : kT) (a_this a_this_fewest a_this_strokes a_p3 a_p3_codes a_p4 a_p4_outlines a_p4_words : Nat) (fewest : Nat → Int32) (strokes : Nat → Int32) (strokeCount : Int32) (p3_codes : Nat → Int32) (p3_length : Int32) (p4_outlines : Nat → Int64) (p4_words : Nat → Int64) (p4_size : Int32) (p1 : Int32) (p2 : Int32) (P : Int32 → Prop) (hw : wX10_fewestWith fewest p3_codes p3_length p4_outlines p4_words p1 p2 P) : Ki0 l g yX10_fewestWith wsX10_fewestWith 3 70 0 0 [.ref a_this, .int p1, .int p2, .ref a_p3, .ref a_p4] (gX10 g a_this a_this_fewest a_this_strokes fewest strokes strokeCount ++ (gX0 g a_p3 a_p3_codes p3_codes p3_length ++ (gX1 g a_p4 a_p4_outlines a_p4_words p4_outlines p4_words p4_size))) P (gX10 g a_this a_this_fewest a_this_strokes fewest strokes strokeCount ++ (gX0 g a_p3 a_p3_codes p3_codes p3_length ++ (gX1 g a_p4 a_p4_outlines a_p4_words p4_outlines p4_words p4_size))) := by
  refine Ki0.mk (cc := cX10_fewestWith) (nL := 8) (ty := .int) (by decide +kernel) rfl (Nat.le_of_ble_eq_true rfl) ?_
  intro p e s m below meth c A Q ls F hl V ret
  have hx := F.x
  have hb := F.b
  have hl : lv_has ls 8 [(0, .ref a_this), (1, .int p1), (2, .int p2), (3, .ref a_p3), (4, .ref a_p4)] := hl
  refine lv_aload hx hb dX10_fewestWith_0 (lv_at hl 4 rfl) ?_
  refine lv_iload_n hx hb dX10_fewestWith_2 rfl (lv_at hl 1 rfl) ?_
  refine kVl0 (rest := []) F hl V [5, 6, 7] [0, 1, 2, 3, 4] [0, 1, 2, 3, 4, 5, 6, 7] (gX10 g a_this a_this_fewest a_this_strokes fewest strokes strokeCount ++ (gX0 g a_p3 a_p3_codes p3_codes p3_length ++ (gX1 g a_p4 a_p4_outlines a_p4_words p4_outlines p4_words p4_size))) a_p4 1 5 rfl rfl (kX1_wordOf l g a_p4 a_p4_outlines a_p4_words p4_outlines p4_words p4_size p1 _ hw) gX10_fewestWith_X1_wordOf rfl 1 rfl hdX1_wordOf rfl rfl (fun _ => rfl) rfl rfl rfl (by decide) ⟨Nat.le_of_ble_eq_true rfl, Nat.le_of_ble_eq_true rfl⟩ ⟨Nat.le_of_ble_eq_true rfl, Nat.le_of_ble_eq_true rfl⟩ (Nat.le_of_ble_eq_true rfl) rfl dX10_fewestWith_3 (fun r_3 H locs hw V => ?_)
  refine lv_lstore (lv' := [(5, .long r_3), (0, .ref a_this), (1, .int p1), (2, .int p2), (3, .ref a_p3), (4, .ref a_p4)]) hx hb dX10_fewestWith_6 hl (by decide) rfl (fun ls hl => ?_)
  refine lv_aload_n hx hb dX10_fewestWith_8 rfl (lv_at hl 4 rfl) ?_
  refine lv_iload_n hx hb dX10_fewestWith_9 rfl (lv_at hl 3 rfl) ?_
  refine lv_lload hx hb dX10_fewestWith_10 (lv_at hl 0 rfl) ?_
  refine kVi0 (rest := []) F hl V [3, 4] [0, 1, 2, 5, 6, 7] [0, 1, 2, 6, 7, 3, 4, 5] (gX10 g a_this a_this_fewest a_this_strokes fewest strokes strokeCount ++ (gX0 g a_p3 a_p3_codes p3_codes p3_length ++ (gX1 g a_p4 a_p4_outlines a_p4_words p4_outlines p4_words p4_size))) a_p3 0 3 rfl rfl (kX0_hasAt l g a_p3 a_p3_codes p3_codes p3_length p2 r_3 _ hw) gX10_fewestWith_X0_hasAt rfl 2 rfl hdX0_hasAt rfl rfl (fun _ => rfl) rfl rfl rfl (by decide) ⟨Nat.le_of_ble_eq_true rfl, Nat.le_of_ble_eq_true rfl⟩ ⟨Nat.le_of_ble_eq_true rfl, Nat.le_of_ble_eq_true rfl⟩ (Nat.le_of_ble_eq_true rfl) rfl dX10_fewestWith_12 (fun r_12 H locs hw V => ?_)
  refine lv_if_ne (tgt := 20) hx hb dX10_fewestWith_15 (by decide) (fun c_15 => ?_) (fun c_15 => ?_)
  · have hw := hw.1 c_15
    refine lv_aload_n hx hb dX10_fewestWith_20 rfl (lv_at hl 1 rfl) ?_
    refine kget F V 6 0 0 rfl rfl iX10_fewestWith_X10 fX10_fewestWith_9 (by decide) rfl rfl dX10_fewestWith_21 ?_
    refine lv_iload_n hx hb dX10_fewestWith_24 rfl (lv_at hl 3 rfl) ?_
    refine lv_lload hx hb dX10_fewestWith_25 (lv_at hl 0 rfl) ?_
    refine kSi0n (rest := [.int p2, .ref a_this_fewest]) F hl V (kX9_length l g r_3 _ hw) gX10_fewestWith_X9_length rfl 1 rfl hdX9_length ⟨Nat.le_of_ble_eq_true rfl, Nat.le_of_ble_eq_true rfl⟩ ⟨Nat.le_of_ble_eq_true rfl, Nat.le_of_ble_eq_true rfl⟩ (Nat.le_of_ble_eq_true rfl) rfl dX10_fewestWith_27 (fun r_27 H locs hw V => ?_)
    refine lv_iadd hx hb dX10_fewestWith_30 ?_
    refine kSi0 (rest := []) F hl V [1] [0, 2, 3, 4, 5, 6, 7] [0, 7, 1, 2, 3, 4, 5, 6] (gX10 g a_this a_this_fewest a_this_strokes fewest strokes strokeCount ++ (gX0 g a_p3 a_p3_codes p3_codes p3_length ++ (gX1 g a_p4 a_p4_outlines a_p4_words p4_outlines p4_words p4_size))) (kX6_at l g a_this_fewest 61 fewest (p2 + r_27) _ hw) gX10_fewestWith_X6_at rfl 2 rfl hdX6_at rfl rfl (fun _ => rfl) rfl rfl rfl (by decide) ⟨Nat.le_of_ble_eq_true rfl, Nat.le_of_ble_eq_true rfl⟩ ⟨Nat.le_of_ble_eq_true rfl, Nat.le_of_ble_eq_true rfl⟩ (Nat.le_of_ble_eq_true rfl) rfl dX10_fewestWith_31 (fun r_31 H locs hw V => ?_)
    refine lv_istore (lv' := [(7, .int r_31), (5, .long r_3), (0, .ref a_this), (1, .int p1), (2, .int p2), (3, .ref a_p3), (4, .ref a_p4)]) hx hb dX10_fewestWith_34 hl (by decide) rfl (fun ls hl => ?_)
    refine lv_iload hx hb dX10_fewestWith_36 (lv_at hl 0 rfl) ?_
    refine lv_iconst (v := (-1)) hx hb dX10_fewestWith_38 (by decide) ?_
    refine lv_icmp_ne (tgt := 46) hx hb dX10_fewestWith_39 (by decide) (fun c_39 => ?_) (fun c_39 => ?_)
    · have hw := hw.1 c_39
      refine lv_aload hx hb dX10_fewestWith_46 (lv_at hl 6 rfl) ?_
      refine lv_iload_n hx hb dX10_fewestWith_48 rfl (lv_at hl 3 rfl) ?_
      refine kVl0 (rest := []) F hl V [5, 6, 7] [0, 1, 2, 3, 4] [0, 1, 2, 3, 4, 5, 6, 7] (gX10 g a_this a_this_fewest a_this_strokes fewest strokes strokeCount ++ (gX0 g a_p3 a_p3_codes p3_codes p3_length ++ (gX1 g a_p4 a_p4_outlines a_p4_words p4_outlines p4_words p4_size))) a_p4 1 5 rfl rfl (kX1_outlineOf l g a_p4 a_p4_outlines a_p4_words p4_outlines p4_words p4_size p1 _ hw) gX10_fewestWith_X1_outlineOf rfl 1 rfl hdX1_outlineOf rfl rfl (fun _ => rfl) rfl rfl rfl (by decide) ⟨Nat.le_of_ble_eq_true rfl, Nat.le_of_ble_eq_true rfl⟩ ⟨Nat.le_of_ble_eq_true rfl, Nat.le_of_ble_eq_true rfl⟩ (Nat.le_of_ble_eq_true rfl) rfl dX10_fewestWith_49 (fun r_49 H locs hw V => ?_)
      refine kSi0n (rest := []) F hl V (kX5_length l g r_49 _ hw) gX10_fewestWith_X5_length rfl 1 rfl hdX5_length ⟨Nat.le_of_ble_eq_true rfl, Nat.le_of_ble_eq_true rfl⟩ ⟨Nat.le_of_ble_eq_true rfl, Nat.le_of_ble_eq_true rfl⟩ (Nat.le_of_ble_eq_true rfl) rfl dX10_fewestWith_52 (fun r_52 H locs hw V => ?_)
      refine lv_iload hx hb dX10_fewestWith_55 (lv_at hl 0 rfl) ?_
      refine lv_iadd hx hb dX10_fewestWith_57 ?_
      exact ret _ _ _ _ _ rfl dX10_fewestWith_58 V hw
    · have hw := hw.2 c_39
      refine lv_iconst (v := (-1)) hx hb dX10_fewestWith_42 (by decide) ?_
      refine lv_goto (tgt := 58) hx hb dX10_fewestWith_43 (by decide) ?_
      exact ret _ _ _ _ _ rfl dX10_fewestWith_58 V hw
  · have hw := hw.2 c_15
    refine lv_iconst (v := (-1)) hx hb dX10_fewestWith_18 (by decide) ?_
    exact ret _ _ _ _ _ rfl dX10_fewestWith_19 V hw
theorem hdX10_fewestFor : yX10_fewestFor.cls = RX10 ∧ yX10_fewestFor.cls ≠ "java/lang/invoke/MethodHandle" ∧ yX10_fewestFor.cls ≠ "java/lang/invoke/VarHandle" ∧ (parseMethodDescriptor yX10_fewestFor.desc).map (fun d => d.parameters.length) = some 2 := by decide +kernel
theorem fX10_fewestFor_9 : Cond.fieldLink RX10 9 RX10 "fewest" "[I" ∈ wsX10_fewestFor := by decide +kernel
theorem iX10_fewestFor_X10 : ∀ w ∈ u_ws RX10 TX10 3, w ∈ wsX10_fewestFor := by decide +kernel
theorem fX10_fewestFor_22 : Cond.fieldLink RX10 22 RX0 "length" "I" ∈ wsX10_fewestFor := by decide +kernel
theorem iX10_fewestFor_X0 : ∀ w ∈ u_ws RX0 TX0 2, w ∈ wsX10_fewestFor := by decide +kernel
theorem fX10_fewestFor_33 : Cond.fieldLink RX10 33 RX1 "size" "I" ∈ wsX10_fewestFor := by decide +kernel
theorem iX10_fewestFor_X1 : ∀ w ∈ u_ws RX1 TX1 3, w ∈ wsX10_fewestFor := by decide +kernel
def wX10_fewestFor_72 (p1_codes : Nat → Int32) (p1_length : Int32) (p2_outlines : Nat → Int64) (p2_words : Nat → Int64) (p2_size : Int32) (K19 : Int32 → (Nat → Int32) → Prop) (K29 : Int32 → Int32 → Int32 → (Nat → Int32) → Prop) (P : Int32 → (Nat → Int32) → Prop) (v3 : Int32) (v4 : Int32) (v5 : Int32) (fewest : Nat → Int32) : Prop := K29 v3 v4 (v5 + 1) fewest
def wX10_fewestFor_68 (p1_codes : Nat → Int32) (p1_length : Int32) (p2_outlines : Nat → Int64) (p2_words : Nat → Int64) (p2_size : Int32) (K19 : Int32 → (Nat → Int32) → Prop) (K29 : Int32 → Int32 → Int32 → (Nat → Int32) → Prop) (P : Int32 → (Nat → Int32) → Prop) (v3 : Int32) (v5 : Int32) (v6 : Int32) (fewest : Nat → Int32) : Prop := wX10_fewestFor_72 p1_codes p1_length p2_outlines p2_words p2_size K19 K29 P v3 v6 v5 fewest
def wX10_fewestFor_29 (p1_codes : Nat → Int32) (p1_length : Int32) (p2_outlines : Nat → Int64) (p2_words : Nat → Int64) (p2_size : Int32) (K19 : Int32 → (Nat → Int32) → Prop) (P : Int32 → (Nat → Int32) → Prop) : Nat → Int32 → Int32 → Int32 → (Nat → Int32) → Prop
  | 0, _, _, _, _ => False
  | n + 1, v3, v4, v5, fewest => (p2_size ≤ v5 → wX6_put 61 v3 v4 (fun fewest_85 => K19 (v3 + (-1)) fewest_85) fewest) ∧ (¬ (p2_size ≤ v5) → wX10_fewestWith fewest p1_codes p1_length p2_outlines p2_words v5 v3 (fun r_44 => (r_44 = (-1) → wX10_fewestFor_72 p1_codes p1_length p2_outlines p2_words p2_size K19 (wX10_fewestFor_29 p1_codes p1_length p2_outlines p2_words p2_size K19 P n) P v3 v4 v5 fewest) ∧ (¬ (r_44 = (-1)) → (v4 = (-1) → wX10_fewestFor_68 p1_codes p1_length p2_outlines p2_words p2_size K19 (wX10_fewestFor_29 p1_codes p1_length p2_outlines p2_words p2_size K19 P n) P v3 v5 r_44 fewest) ∧ (¬ (v4 = (-1)) → (v4 ≤ r_44 → wX10_fewestFor_72 p1_codes p1_length p2_outlines p2_words p2_size K19 (wX10_fewestFor_29 p1_codes p1_length p2_outlines p2_words p2_size K19 P n) P v3 v4 v5 fewest) ∧ (¬ (v4 ≤ r_44) → wX10_fewestFor_68 p1_codes p1_length p2_outlines p2_words p2_size K19 (wX10_fewestFor_29 p1_codes p1_length p2_outlines p2_words p2_size K19 P n) P v3 v5 r_44 fewest)))))
def wX10_fewestFor_19 (p1_codes : Nat → Int32) (p1_length : Int32) (p2_outlines : Nat → Int64) (p2_words : Nat → Int64) (p2_size : Int32) (P : Int32 → (Nat → Int32) → Prop) : Nat → Int32 → (Nat → Int32) → Prop
  | 0, _, _ => False
  | n + 1, v3, fewest => (v3 < 0 → wX6_at 61 fewest 0 (fun r_99 => P r_99 fewest)) ∧ (¬ (v3 < 0) → ∃ n_29, wX10_fewestFor_29 p1_codes p1_length p2_outlines p2_words p2_size (wX10_fewestFor_19 p1_codes p1_length p2_outlines p2_words p2_size P n) P n_29 v3 (-1) 0 fewest)
def wX10_fewestFor (p1_codes : Nat → Int32) (p1_length : Int32) (p2_outlines : Nat → Int64) (p2_words : Nat → Int64) (p2_size : Int32) (P : Int32 → (Nat → Int32) → Prop) (fewest : Nat → Int32) : Prop := wX6_put 61 p1_length 0 (fun fewest_9 => ∀ v3_18 : Int32, v3_18 = (p1_length - 1) → ∃ n_19, wX10_fewestFor_19 p1_codes p1_length p2_outlines p2_words p2_size P n_19 v3_18 fewest_9) fewest
set_option maxHeartbeats 4000000 in
set_option maxRecDepth 100000 in
theorem kX10_fewestFor (l : Launch) (g : kT) (a_this a_this_fewest a_this_strokes a_p1 a_p1_codes a_p2 a_p2_outlines a_p2_words : Nat) (fewest : Nat → Int32) (strokes : Nat → Int32) (strokeCount : Int32) (p1_codes : Nat → Int32) (p1_length : Int32) (p2_outlines : Nat → Int64) (p2_words : Nat → Int64) (p2_size : Int32) (P : Int32 → (Nat → Int32) → Prop) (hw : wX10_fewestFor p1_codes p1_length p2_outlines p2_words p2_size P fewest) : Ki1 l g yX10_fewestFor wsX10_fewestFor 4 97 0 0 [.ref a_this, .ref a_p1, .ref a_p2] (gX10 g a_this a_this_fewest a_this_strokes fewest strokes strokeCount ++ (gX0 g a_p1 a_p1_codes p1_codes p1_length ++ (gX1 g a_p2 a_p2_outlines a_p2_words p2_outlines p2_words p2_size))) P (fun fewest => (gX10 g a_this a_this_fewest a_this_strokes fewest strokes strokeCount ++ (gX0 g a_p1 a_p1_codes p1_codes p1_length ++ (gX1 g a_p2 a_p2_outlines a_p2_words p2_outlines p2_words p2_size)))) := by
  refine Ki1.mk (cc := cX10_fewestFor) (nL := 7) (ty := .int) (by decide +kernel) rfl (Nat.le_of_ble_eq_true rfl) ?_
  intro p e s m below meth c A Q ls F hl V ret
  have hx := F.x
  have hb := F.b
  have hl : lv_has ls 7 [(0, .ref a_this), (1, .ref a_p1), (2, .ref a_p2)] := hl
  have B72 : ∀ (K19 : Int32 → (Nat → Int32) → Prop) (k19 : ∀ {H : Heap} {locs : List Loc} {ls : Array Slot} (v3 : Int32) (fewest : Nat → Int32), VW g A s.heap H locs (gX10 g a_this a_this_fewest a_this_strokes fewest strokes strokeCount ++ (gX0 g a_p1 a_p1_codes p1_codes p1_length ++ (gX1 g a_p2 a_p2_outlines a_p2_words p2_outlines p2_words p2_size))) → lv_has ls 7 [(0, .ref a_this), (1, .ref a_p1), (2, .ref a_p2), (3, .int v3)] → K19 v3 fewest → W p l e (kR 4 97 0 0) s m ([.ref a_this, .ref a_p1, .ref a_p2] : List Value).toArray below meth c H locs 0 0 Q (F0 m 19 ls [])) (K29 : Int32 → Int32 → Int32 → (Nat → Int32) → Prop) (k29 : ∀ {H : Heap} {locs : List Loc} {ls : Array Slot} (v3 : Int32) (v4 : Int32) (v5 : Int32) (fewest : Nat → Int32), VW g A s.heap H locs (gX10 g a_this a_this_fewest a_this_strokes fewest strokes strokeCount ++ (gX0 g a_p1 a_p1_codes p1_codes p1_length ++ (gX1 g a_p2 a_p2_outlines a_p2_words p2_outlines p2_words p2_size))) → lv_has ls 7 [(0, .ref a_this), (1, .ref a_p1), (2, .ref a_p2), (3, .int v3), (4, .int v4), (5, .int v5)] → K29 v3 v4 v5 fewest → W p l e (kR 4 97 0 0) s m ([.ref a_this, .ref a_p1, .ref a_p2] : List Value).toArray below meth c H locs 0 0 Q (F0 m 29 ls [])), ∀ {H : Heap} {locs : List Loc} {ls : Array Slot} (v3 : Int32) (v4 : Int32) (v5 : Int32) (fewest : Nat → Int32) (V : VW g A s.heap H locs (gX10 g a_this a_this_fewest a_this_strokes fewest strokes strokeCount ++ (gX0 g a_p1 a_p1_codes p1_codes p1_length ++ (gX1 g a_p2 a_p2_outlines a_p2_words p2_outlines p2_words p2_size)))) (hl : lv_has ls 7 [(0, .ref a_this), (1, .ref a_p1), (2, .ref a_p2), (3, .int v3), (4, .int v4), (5, .int v5)]) (hw : wX10_fewestFor_72 p1_codes p1_length p2_outlines p2_words p2_size K19 K29 P v3 v4 v5 fewest), W p l e (kR 4 97 0 0) s m ([.ref a_this, .ref a_p1, .ref a_p2] : List Value).toArray below meth c H locs 0 0 Q (F0 m 72 ls []) := by
    intro K19 k19 K29 k29 H locs ls v3 v4 v5 fewest V hl hw
    refine lv_iinc (v := v5 + 1) (lv' := [(5, .int (v5 + 1)), (0, .ref a_this), (1, .ref a_p1), (2, .ref a_p2), (3, .int v3), (4, .int v4)]) hx hb dX10_fewestFor_72 hl (k := 5) rfl rfl (by decide) rfl (fun ls hl => ?_)
    refine lv_goto (tgt := 29) hx hb dX10_fewestFor_75 (by decide) ?_
    exact k29 v3 v4 (v5 + 1) fewest V (lv_sub hl [1, 2, 3, 4, 5, 0] rfl) hw
  have B68 : ∀ (K19 : Int32 → (Nat → Int32) → Prop) (k19 : ∀ {H : Heap} {locs : List Loc} {ls : Array Slot} (v3 : Int32) (fewest : Nat → Int32), VW g A s.heap H locs (gX10 g a_this a_this_fewest a_this_strokes fewest strokes strokeCount ++ (gX0 g a_p1 a_p1_codes p1_codes p1_length ++ (gX1 g a_p2 a_p2_outlines a_p2_words p2_outlines p2_words p2_size))) → lv_has ls 7 [(0, .ref a_this), (1, .ref a_p1), (2, .ref a_p2), (3, .int v3)] → K19 v3 fewest → W p l e (kR 4 97 0 0) s m ([.ref a_this, .ref a_p1, .ref a_p2] : List Value).toArray below meth c H locs 0 0 Q (F0 m 19 ls [])) (K29 : Int32 → Int32 → Int32 → (Nat → Int32) → Prop) (k29 : ∀ {H : Heap} {locs : List Loc} {ls : Array Slot} (v3 : Int32) (v4 : Int32) (v5 : Int32) (fewest : Nat → Int32), VW g A s.heap H locs (gX10 g a_this a_this_fewest a_this_strokes fewest strokes strokeCount ++ (gX0 g a_p1 a_p1_codes p1_codes p1_length ++ (gX1 g a_p2 a_p2_outlines a_p2_words p2_outlines p2_words p2_size))) → lv_has ls 7 [(0, .ref a_this), (1, .ref a_p1), (2, .ref a_p2), (3, .int v3), (4, .int v4), (5, .int v5)] → K29 v3 v4 v5 fewest → W p l e (kR 4 97 0 0) s m ([.ref a_this, .ref a_p1, .ref a_p2] : List Value).toArray below meth c H locs 0 0 Q (F0 m 29 ls [])), ∀ {H : Heap} {locs : List Loc} {ls : Array Slot} (v3 : Int32) (v5 : Int32) (v6 : Int32) (fewest : Nat → Int32) (V : VW g A s.heap H locs (gX10 g a_this a_this_fewest a_this_strokes fewest strokes strokeCount ++ (gX0 g a_p1 a_p1_codes p1_codes p1_length ++ (gX1 g a_p2 a_p2_outlines a_p2_words p2_outlines p2_words p2_size)))) (hl : lv_has ls 7 [(0, .ref a_this), (1, .ref a_p1), (2, .ref a_p2), (3, .int v3), (5, .int v5), (6, .int v6)]) (hw : wX10_fewestFor_68 p1_codes p1_length p2_outlines p2_words p2_size K19 K29 P v3 v5 v6 fewest), W p l e (kR 4 97 0 0) s m ([.ref a_this, .ref a_p1, .ref a_p2] : List Value).toArray below meth c H locs 0 0 Q (F0 m 68 ls []) := by
    intro K19 k19 K29 k29 H locs ls v3 v5 v6 fewest V hl hw
    refine lv_iload hx hb dX10_fewestFor_68 (lv_at hl 5 rfl) ?_
    refine lv_istore (lv' := [(4, .int v6), (0, .ref a_this), (1, .ref a_p1), (2, .ref a_p2), (3, .int v3), (5, .int v5), (6, .int v6)]) hx hb dX10_fewestFor_70 hl (by decide) rfl (fun ls hl => ?_)
    exact B72 K19 k19 K29 k29 v3 v6 v5 fewest V (lv_sub hl [1, 2, 3, 4, 0, 5] rfl) hw
  have B29 : ∀ (K19 : Int32 → (Nat → Int32) → Prop) (k19 : ∀ {H : Heap} {locs : List Loc} {ls : Array Slot} (v3 : Int32) (fewest : Nat → Int32), VW g A s.heap H locs (gX10 g a_this a_this_fewest a_this_strokes fewest strokes strokeCount ++ (gX0 g a_p1 a_p1_codes p1_codes p1_length ++ (gX1 g a_p2 a_p2_outlines a_p2_words p2_outlines p2_words p2_size))) → lv_has ls 7 [(0, .ref a_this), (1, .ref a_p1), (2, .ref a_p2), (3, .int v3)] → K19 v3 fewest → W p l e (kR 4 97 0 0) s m ([.ref a_this, .ref a_p1, .ref a_p2] : List Value).toArray below meth c H locs 0 0 Q (F0 m 19 ls [])), ∀ (n : Nat), ∀ {H : Heap} {locs : List Loc} {ls : Array Slot} (v3 : Int32) (v4 : Int32) (v5 : Int32) (fewest : Nat → Int32) (V : VW g A s.heap H locs (gX10 g a_this a_this_fewest a_this_strokes fewest strokes strokeCount ++ (gX0 g a_p1 a_p1_codes p1_codes p1_length ++ (gX1 g a_p2 a_p2_outlines a_p2_words p2_outlines p2_words p2_size)))) (hl : lv_has ls 7 [(0, .ref a_this), (1, .ref a_p1), (2, .ref a_p2), (3, .int v3), (4, .int v4), (5, .int v5)]) (hw : wX10_fewestFor_29 p1_codes p1_length p2_outlines p2_words p2_size K19 P n v3 v4 v5 fewest), W p l e (kR 4 97 0 0) s m ([.ref a_this, .ref a_p1, .ref a_p2] : List Value).toArray below meth c H locs 0 0 Q (F0 m 29 ls []) := by
    intro K19 k19
    intro n
    induction n with
    | zero => intro _ _ _ _ _ _ _ V hl hw; exact hw.elim
    | succ n ih =>
      intro H locs ls v3 v4 v5 fewest V hl hw
      refine lv_iload hx hb dX10_fewestFor_29 (lv_at hl 5 rfl) ?_
      refine lv_aload_n hx hb dX10_fewestFor_31 rfl (lv_at hl 2 rfl) ?_
      refine kget F V 1 2 5 rfl rfl iX10_fewestFor_X1 fX10_fewestFor_33 (by decide) rfl rfl dX10_fewestFor_32 ?_
      refine lv_icmp_ge (tgt := 78) hx hb dX10_fewestFor_35 (by decide) (fun c_35 => ?_) (fun c_35 => ?_)
      · have hw := hw.1 c_35
        refine lv_aload_n hx hb dX10_fewestFor_78 rfl (lv_at hl 0 rfl) ?_
        refine kget F V 6 0 0 rfl rfl iX10_fewestFor_X10 fX10_fewestFor_9 (by decide) rfl rfl dX10_fewestFor_79 ?_
        refine lv_iload_n hx hb dX10_fewestFor_82 rfl (lv_at hl 3 rfl) ?_
        refine lv_iload hx hb dX10_fewestFor_83 (lv_at hl 4 rfl) ?_
        refine kSv1 (rest := []) F hl V [1] [0, 2, 3, 4, 5, 6, 7] [0, 7, 1, 2, 3, 4, 5, 6] (fun fewest_85 => (gX10 g a_this a_this_fewest a_this_strokes fewest_85 strokes strokeCount ++ (gX0 g a_p1 a_p1_codes p1_codes p1_length ++ (gX1 g a_p2 a_p2_outlines a_p2_words p2_outlines p2_words p2_size)))) (kX6_put l g a_this_fewest 61 fewest v3 v4 _ hw) gX10_fewestFor_X6_put rfl 3 rfl hdX6_put rfl rfl (fun _ => rfl) rfl rfl rfl (by decide) ⟨Nat.le_of_ble_eq_true rfl, Nat.le_of_ble_eq_true rfl⟩ ⟨Nat.le_of_ble_eq_true rfl, Nat.le_of_ble_eq_true rfl⟩ (Nat.le_of_ble_eq_true rfl) rfl dX10_fewestFor_85 (fun fewest_85 H locs hw V => ?_)
        refine lv_iinc (v := v3 + (-1)) (lv' := [(3, .int (v3 + (-1))), (0, .ref a_this), (1, .ref a_p1), (2, .ref a_p2), (4, .int v4), (5, .int v5)]) hx hb dX10_fewestFor_88 hl (k := 3) rfl rfl (by decide) rfl (fun ls hl => ?_)
        refine lv_goto (tgt := 19) hx hb dX10_fewestFor_91 (by decide) ?_
        exact k19 (v3 + (-1)) fewest_85 V (lv_sub hl [1, 2, 3, 0] rfl) hw
      · have hw := hw.2 c_35
        refine lv_aload_n hx hb dX10_fewestFor_38 rfl (lv_at hl 0 rfl) ?_
        refine lv_iload hx hb dX10_fewestFor_39 (lv_at hl 5 rfl) ?_
        refine lv_iload_n hx hb dX10_fewestFor_41 rfl (lv_at hl 3 rfl) ?_
        refine lv_aload_n hx hb dX10_fewestFor_42 rfl (lv_at hl 1 rfl) ?_
        refine lv_aload_n hx hb dX10_fewestFor_43 rfl (lv_at hl 2 rfl) ?_
        refine kVi0 (rest := []) F hl V [0, 1, 2, 3, 4, 5, 6, 7] [] [0, 1, 2, 3, 4, 5, 6, 7] (gX10 g a_this a_this_fewest a_this_strokes fewest strokes strokeCount ++ (gX0 g a_p1 a_p1_codes p1_codes p1_length ++ (gX1 g a_p2 a_p2_outlines a_p2_words p2_outlines p2_words p2_size))) a_this 6 0 rfl rfl (kX10_fewestWith l g a_this a_this_fewest a_this_strokes a_p1 a_p1_codes a_p2 a_p2_outlines a_p2_words fewest strokes strokeCount p1_codes p1_length p2_outlines p2_words p2_size v5 v3 _ hw) gX10_fewestFor_X10_fewestWith rfl 4 rfl hdX10_fewestWith rfl rfl (fun _ => rfl) rfl rfl rfl (by decide) ⟨Nat.le_of_ble_eq_true rfl, Nat.le_of_ble_eq_true rfl⟩ ⟨Nat.le_of_ble_eq_true rfl, Nat.le_of_ble_eq_true rfl⟩ (Nat.le_of_ble_eq_true rfl) rfl dX10_fewestFor_44 (fun r_44 H locs hw V => ?_)
        refine lv_istore (lv' := [(6, .int r_44), (0, .ref a_this), (1, .ref a_p1), (2, .ref a_p2), (3, .int v3), (4, .int v4), (5, .int v5)]) hx hb dX10_fewestFor_47 hl (by decide) rfl (fun ls hl => ?_)
        refine lv_iload hx hb dX10_fewestFor_49 (lv_at hl 0 rfl) ?_
        refine lv_iconst (v := (-1)) hx hb dX10_fewestFor_51 (by decide) ?_
        refine lv_icmp_eq (tgt := 72) hx hb dX10_fewestFor_52 (by decide) (fun c_52 => ?_) (fun c_52 => ?_)
        · have hw := hw.1 c_52
          exact B72 K19 k19 (wX10_fewestFor_29 p1_codes p1_length p2_outlines p2_words p2_size K19 P n) ih v3 v4 v5 fewest V (lv_sub hl [1, 2, 3, 4, 5, 6] rfl) hw
        · have hw := hw.2 c_52
          refine lv_iload hx hb dX10_fewestFor_55 (lv_at hl 5 rfl) ?_
          refine lv_iconst (v := (-1)) hx hb dX10_fewestFor_57 (by decide) ?_
          refine lv_icmp_eq (tgt := 68) hx hb dX10_fewestFor_58 (by decide) (fun c_58 => ?_) (fun c_58 => ?_)
          · have hw := hw.1 c_58
            exact B68 K19 k19 (wX10_fewestFor_29 p1_codes p1_length p2_outlines p2_words p2_size K19 P n) ih v3 v5 r_44 fewest V (lv_sub hl [1, 2, 3, 4, 6, 0] rfl) hw
          · have hw := hw.2 c_58
            refine lv_iload hx hb dX10_fewestFor_61 (lv_at hl 0 rfl) ?_
            refine lv_iload hx hb dX10_fewestFor_63 (lv_at hl 5 rfl) ?_
            refine lv_icmp_ge (tgt := 72) hx hb dX10_fewestFor_65 (by decide) (fun c_65 => ?_) (fun c_65 => ?_)
            · have hw := hw.1 c_65
              exact B72 K19 k19 (wX10_fewestFor_29 p1_codes p1_length p2_outlines p2_words p2_size K19 P n) ih v3 v4 v5 fewest V (lv_sub hl [1, 2, 3, 4, 5, 6] rfl) hw
            · have hw := hw.2 c_65
              exact B68 K19 k19 (wX10_fewestFor_29 p1_codes p1_length p2_outlines p2_words p2_size K19 P n) ih v3 v5 r_44 fewest V (lv_sub hl [1, 2, 3, 4, 6, 0] rfl) hw
  have B19 :  ∀ (n : Nat), ∀ {H : Heap} {locs : List Loc} {ls : Array Slot} (v3 : Int32) (fewest : Nat → Int32) (V : VW g A s.heap H locs (gX10 g a_this a_this_fewest a_this_strokes fewest strokes strokeCount ++ (gX0 g a_p1 a_p1_codes p1_codes p1_length ++ (gX1 g a_p2 a_p2_outlines a_p2_words p2_outlines p2_words p2_size)))) (hl : lv_has ls 7 [(0, .ref a_this), (1, .ref a_p1), (2, .ref a_p2), (3, .int v3)]) (hw : wX10_fewestFor_19 p1_codes p1_length p2_outlines p2_words p2_size P n v3 fewest), W p l e (kR 4 97 0 0) s m ([.ref a_this, .ref a_p1, .ref a_p2] : List Value).toArray below meth c H locs 0 0 Q (F0 m 19 ls []) := by
    intro n
    induction n with
    | zero => intro _ _ _ _ _ V hl hw; exact hw.elim
    | succ n ih =>
      intro H locs ls v3 fewest V hl hw
      refine lv_iload_n hx hb dX10_fewestFor_19 rfl (lv_at hl 3 rfl) ?_
      refine lv_if_lt (tgt := 94) hx hb dX10_fewestFor_20 (by decide) (fun c_20 => ?_) (fun c_20 => ?_)
      · have hw := hw.1 c_20
        refine lv_aload_n hx hb dX10_fewestFor_94 rfl (lv_at hl 0 rfl) ?_
        refine kget F V 6 0 0 rfl rfl iX10_fewestFor_X10 fX10_fewestFor_9 (by decide) rfl rfl dX10_fewestFor_95 ?_
        refine lv_iconst (v := 0) hx hb dX10_fewestFor_98 (by decide) ?_
        refine kSi0 (rest := []) F hl V [1] [0, 2, 3, 4, 5, 6, 7] [0, 7, 1, 2, 3, 4, 5, 6] (gX10 g a_this a_this_fewest a_this_strokes fewest strokes strokeCount ++ (gX0 g a_p1 a_p1_codes p1_codes p1_length ++ (gX1 g a_p2 a_p2_outlines a_p2_words p2_outlines p2_words p2_size))) (kX6_at l g a_this_fewest 61 fewest 0 _ hw) gX10_fewestFor_X6_at rfl 2 rfl hdX6_at rfl rfl (fun _ => rfl) rfl rfl rfl (by decide) ⟨Nat.le_of_ble_eq_true rfl, Nat.le_of_ble_eq_true rfl⟩ ⟨Nat.le_of_ble_eq_true rfl, Nat.le_of_ble_eq_true rfl⟩ (Nat.le_of_ble_eq_true rfl) rfl dX10_fewestFor_99 (fun r_99 H locs hw V => ?_)
        exact ret _ _ _ _ _ _ rfl dX10_fewestFor_102 V hw
      · have hw := hw.2 c_20
        refine lv_iconst (v := (-1)) hx hb dX10_fewestFor_23 (by decide) ?_
        refine lv_istore (lv' := [(4, .int (-1)), (0, .ref a_this), (1, .ref a_p1), (2, .ref a_p2), (3, .int v3)]) hx hb dX10_fewestFor_24 hl (by decide) rfl (fun ls hl => ?_)
        refine lv_iconst (v := 0) hx hb dX10_fewestFor_26 (by decide) ?_
        refine lv_istore (lv' := [(5, .int 0), (4, .int (-1)), (0, .ref a_this), (1, .ref a_p1), (2, .ref a_p2), (3, .int v3)]) hx hb dX10_fewestFor_27 hl (by decide) rfl (fun ls hl => ?_)
        obtain ⟨n_29, hw⟩ := hw
        exact B29 (wX10_fewestFor_19 p1_codes p1_length p2_outlines p2_words p2_size P n) ih n_29 v3 (-1) 0 fewest V (lv_sub hl [2, 3, 4, 5, 1, 0] rfl) hw
  refine lv_aload_n hx hb dX10_fewestFor_0 rfl (lv_at hl 0 rfl) ?_
  refine kget F V 6 0 0 rfl rfl iX10_fewestFor_X10 fX10_fewestFor_9 (by decide) rfl rfl dX10_fewestFor_1 ?_
  refine lv_aload_n hx hb dX10_fewestFor_4 rfl (lv_at hl 1 rfl) ?_
  refine kget F V 0 1 3 rfl rfl iX10_fewestFor_X0 fX10_fewestFor_22 (by decide) rfl rfl dX10_fewestFor_5 ?_
  refine lv_iconst (v := 0) hx hb dX10_fewestFor_8 (by decide) ?_
  refine kSv1 (rest := []) F hl V [1] [0, 2, 3, 4, 5, 6, 7] [0, 7, 1, 2, 3, 4, 5, 6] (fun fewest_9 => (gX10 g a_this a_this_fewest a_this_strokes fewest_9 strokes strokeCount ++ (gX0 g a_p1 a_p1_codes p1_codes p1_length ++ (gX1 g a_p2 a_p2_outlines a_p2_words p2_outlines p2_words p2_size)))) (kX6_put l g a_this_fewest 61 fewest p1_length 0 _ hw) gX10_fewestFor_X6_put rfl 3 rfl hdX6_put rfl rfl (fun _ => rfl) rfl rfl rfl (by decide) ⟨Nat.le_of_ble_eq_true rfl, Nat.le_of_ble_eq_true rfl⟩ ⟨Nat.le_of_ble_eq_true rfl, Nat.le_of_ble_eq_true rfl⟩ (Nat.le_of_ble_eq_true rfl) rfl dX10_fewestFor_9 (fun fewest_9 H locs hw V => ?_)
  refine lv_aload_n hx hb dX10_fewestFor_12 rfl (lv_at hl 1 rfl) ?_
  refine kget F V 0 1 3 rfl rfl iX10_fewestFor_X0 fX10_fewestFor_22 (by decide) rfl rfl dX10_fewestFor_13 ?_
  refine lv_iconst (v := 1) hx hb dX10_fewestFor_16 (by decide) ?_
  refine lv_isub hx hb dX10_fewestFor_17 ?_
  refine lv_topi (fun v3_18 ev3_18 => ?_)
  have hw := hw v3_18 ev3_18
  refine lv_istore_n (lv' := [(3, .int v3_18), (0, .ref a_this), (1, .ref a_p1), (2, .ref a_p2)]) hx hb dX10_fewestFor_18 rfl hl (by decide) rfl (fun ls hl => ?_)
  obtain ⟨n_19, hw⟩ := hw
  exact B19  n_19 v3_18 fewest_9 V (lv_sub hl [1, 2, 3, 0] rfl) hw
theorem hdX11_fewestStrokes : yX11_fewestStrokes.cls = RX11 ∧ yX11_fewestStrokes.cls ≠ "java/lang/invoke/MethodHandle" ∧ yX11_fewestStrokes.cls ≠ "java/lang/invoke/VarHandle" ∧ (parseMethodDescriptor yX11_fewestStrokes.desc).map (fun d => d.parameters.length) = some 0 := by decide +kernel
theorem fX11_fewestStrokes_43 : Cond.fieldLink RX11 43 RX11 "writing" "LChordDesk$Writing;" ∈ wsX11_fewestStrokes := by decide +kernel
theorem iX11_fewestStrokes_X11 : ∀ w ∈ u_ws RX11 TX11 6, w ∈ wsX11_fewestStrokes := by decide +kernel
theorem fX11_fewestStrokes_29 : Cond.fieldLink RX11 29 RX11 "buffer" "LChordDesk$Buffer;" ∈ wsX11_fewestStrokes := by decide +kernel
theorem fX11_fewestStrokes_10 : Cond.fieldLink RX11 10 RX11 "now" "LChordDesk$State;" ∈ wsX11_fewestStrokes := by decide +kernel
theorem fX11_fewestStrokes_122 : Cond.fieldLink RX11 122 RX8 "dictionary" "LChordDesk$Dictionary;" ∈ wsX11_fewestStrokes := by decide +kernel
theorem iX11_fewestStrokes_X8 : ∀ w ∈ u_ws RX8 TX8 2, w ∈ wsX11_fewestStrokes := by decide +kernel
def wX11_fewestStrokes (buffer_codes : Nat → Int32) (buffer_length : Int32) (now_dictionary_outlines : Nat → Int64) (now_dictionary_words : Nat → Int64) (now_dictionary_size : Int32) (P : Int32 → (Nat → Int32) → Prop) (writing_fewest : Nat → Int32) : Prop := wX10_fewestFor buffer_codes buffer_length now_dictionary_outlines now_dictionary_words now_dictionary_size (fun r_15 writing_fewest_15 => P r_15 writing_fewest_15) writing_fewest
set_option maxHeartbeats 4000000 in
set_option maxRecDepth 100000 in
theorem kX11_fewestStrokes (l : Launch) (g : kT) (a_this a_this_now a_this_trial a_this_history a_this_buffer a_this_reader a_this_writing a_this_now_dictionary a_this_now_session a_this_writing_fewest a_this_writing_strokes a_this_buffer_codes a_this_now_dictionary_outlines a_this_now_dictionary_words : Nat) (writing_fewest : Nat → Int32) (writing_strokes : Nat → Int32) (writing_strokeCount : Int32) (buffer_codes : Nat → Int32) (buffer_length : Int32) (now_dictionary_outlines : Nat → Int64) (now_dictionary_words : Nat → Int64) (now_dictionary_size : Int32) (P : Int32 → (Nat → Int32) → Prop) (hw : wX11_fewestStrokes buffer_codes buffer_length now_dictionary_outlines now_dictionary_words now_dictionary_size P writing_fewest) : Ki1 l g yX11_fewestStrokes wsX11_fewestStrokes 5 123 0 0 [.ref a_this] (gX11 g a_this a_this_now a_this_trial a_this_history a_this_buffer a_this_reader a_this_writing ++ (gX8 g a_this_now a_this_now_dictionary a_this_now_session ++ (gX10 g a_this_writing a_this_writing_fewest a_this_writing_strokes writing_fewest writing_strokes writing_strokeCount ++ (gX0 g a_this_buffer a_this_buffer_codes buffer_codes buffer_length ++ (gX1 g a_this_now_dictionary a_this_now_dictionary_outlines a_this_now_dictionary_words now_dictionary_outlines now_dictionary_words now_dictionary_size))))) P (fun writing_fewest => (gX11 g a_this a_this_now a_this_trial a_this_history a_this_buffer a_this_reader a_this_writing ++ (gX8 g a_this_now a_this_now_dictionary a_this_now_session ++ (gX10 g a_this_writing a_this_writing_fewest a_this_writing_strokes writing_fewest writing_strokes writing_strokeCount ++ (gX0 g a_this_buffer a_this_buffer_codes buffer_codes buffer_length ++ (gX1 g a_this_now_dictionary a_this_now_dictionary_outlines a_this_now_dictionary_words now_dictionary_outlines now_dictionary_words now_dictionary_size)))))) := by
  refine Ki1.mk (cc := cX11_fewestStrokes) (nL := 1) (ty := .int) (by decide +kernel) rfl (Nat.le_of_ble_eq_true rfl) ?_
  intro p e s m below meth c A Q ls F hl V ret
  have hx := F.x
  have hb := F.b
  have hl : lv_has ls 1 [(0, .ref a_this)] := hl
  refine lv_aload_n hx hb dX11_fewestStrokes_0 rfl (lv_at hl 0 rfl) ?_
  refine kget F V 7 5 0 rfl rfl iX11_fewestStrokes_X11 fX11_fewestStrokes_43 (by decide) rfl rfl dX11_fewestStrokes_1 ?_
  refine lv_aload_n hx hb dX11_fewestStrokes_4 rfl (lv_at hl 0 rfl) ?_
  refine kget F V 7 3 0 rfl rfl iX11_fewestStrokes_X11 fX11_fewestStrokes_29 (by decide) rfl rfl dX11_fewestStrokes_5 ?_
  refine lv_aload_n hx hb dX11_fewestStrokes_8 rfl (lv_at hl 0 rfl) ?_
  refine kget F V 7 0 0 rfl rfl iX11_fewestStrokes_X11 fX11_fewestStrokes_10 (by decide) rfl rfl dX11_fewestStrokes_9 ?_
  refine kget F V 5 0 1 rfl rfl iX11_fewestStrokes_X8 fX11_fewestStrokes_122 (by decide) rfl rfl dX11_fewestStrokes_12 ?_
  refine kVi1 (rest := []) F hl V [2, 3, 4, 5, 6, 7, 8, 9] [0, 1] [0, 1, 2, 3, 4, 5, 6, 7, 8, 9] (fun writing_fewest_15 => (gX11 g a_this a_this_now a_this_trial a_this_history a_this_buffer a_this_reader a_this_writing ++ (gX8 g a_this_now a_this_now_dictionary a_this_now_session ++ (gX10 g a_this_writing a_this_writing_fewest a_this_writing_strokes writing_fewest_15 writing_strokes writing_strokeCount ++ (gX0 g a_this_buffer a_this_buffer_codes buffer_codes buffer_length ++ (gX1 g a_this_now_dictionary a_this_now_dictionary_outlines a_this_now_dictionary_words now_dictionary_outlines now_dictionary_words now_dictionary_size)))))) a_this_writing 6 2 rfl rfl (kX10_fewestFor l g a_this_writing a_this_writing_fewest a_this_writing_strokes a_this_buffer a_this_buffer_codes a_this_now_dictionary a_this_now_dictionary_outlines a_this_now_dictionary_words writing_fewest writing_strokes writing_strokeCount buffer_codes buffer_length now_dictionary_outlines now_dictionary_words now_dictionary_size _ hw) gX11_fewestStrokes_X10_fewestFor rfl 2 rfl hdX10_fewestFor rfl rfl (fun _ => rfl) rfl rfl rfl (by decide) ⟨Nat.le_of_ble_eq_true rfl, Nat.le_of_ble_eq_true rfl⟩ ⟨Nat.le_of_ble_eq_true rfl, Nat.le_of_ble_eq_true rfl⟩ (Nat.le_of_ble_eq_true rfl) rfl dX11_fewestStrokes_15 (fun r_15 writing_fewest_15 H locs hw V => ?_)
  exact ret _ _ _ _ _ _ rfl dX11_fewestStrokes_18 V hw
theorem hdX10_firstBestAt : yX10_firstBestAt.cls = RX10 ∧ yX10_firstBestAt.cls ≠ "java/lang/invoke/MethodHandle" ∧ yX10_firstBestAt.cls ≠ "java/lang/invoke/VarHandle" ∧ (parseMethodDescriptor yX10_firstBestAt.desc).map (fun d => d.parameters.length) = some 3 := by decide +kernel
theorem fX10_firstBestAt_33 : Cond.fieldLink RX10 33 RX1 "size" "I" ∈ wsX10_firstBestAt := by decide +kernel
theorem iX10_firstBestAt_X1 : ∀ w ∈ u_ws RX1 TX1 3, w ∈ wsX10_firstBestAt := by decide +kernel
theorem fX10_firstBestAt_9 : Cond.fieldLink RX10 9 RX10 "fewest" "[I" ∈ wsX10_firstBestAt := by decide +kernel
theorem iX10_firstBestAt_X10 : ∀ w ∈ u_ws RX10 TX10 3, w ∈ wsX10_firstBestAt := by decide +kernel
def wX10_firstBestAt_3 (fewest : Nat → Int32) (p2_codes : Nat → Int32) (p2_length : Int32) (p3_outlines : Nat → Int64) (p3_words : Nat → Int64) (p3_size : Int32) (p1 : Int32) (P : Int32 → Prop) : Nat → Int32 → Prop
  | 0, _ => False
  | n + 1, v4 => (p3_size ≤ v4 → P (-1)) ∧ (¬ (p3_size ≤ v4) → wX10_fewestWith fewest p2_codes p2_length p3_outlines p3_words v4 p1 (fun r_18 => wX6_at 61 fewest p1 (fun r_26 => (¬ r_18 = r_26 → (wX10_firstBestAt_3 fewest p2_codes p2_length p3_outlines p3_words p3_size p1 P n) (v4 + 1)) ∧ (r_18 = r_26 → P v4))))
def wX10_firstBestAt (fewest : Nat → Int32) (p2_codes : Nat → Int32) (p2_length : Int32) (p3_outlines : Nat → Int64) (p3_words : Nat → Int64) (p3_size : Int32) (p1 : Int32) (P : Int32 → Prop) : Prop := ∃ n_3, wX10_firstBestAt_3 fewest p2_codes p2_length p3_outlines p3_words p3_size p1 P n_3 0
set_option maxHeartbeats 4000000 in
set_option maxRecDepth 100000 in
theorem kX10_firstBestAt (l : Launch) (g : kT) (a_this a_this_fewest a_this_strokes a_p2 a_p2_codes a_p3 a_p3_outlines a_p3_words : Nat) (fewest : Nat → Int32) (strokes : Nat → Int32) (strokeCount : Int32) (p2_codes : Nat → Int32) (p2_length : Int32) (p3_outlines : Nat → Int64) (p3_words : Nat → Int64) (p3_size : Int32) (p1 : Int32) (P : Int32 → Prop) (hw : wX10_firstBestAt fewest p2_codes p2_length p3_outlines p3_words p3_size p1 P) : Ki0 l g yX10_firstBestAt wsX10_firstBestAt 4 97 0 0 [.ref a_this, .int p1, .ref a_p2, .ref a_p3] (gX10 g a_this a_this_fewest a_this_strokes fewest strokes strokeCount ++ (gX0 g a_p2 a_p2_codes p2_codes p2_length ++ (gX1 g a_p3 a_p3_outlines a_p3_words p3_outlines p3_words p3_size))) P (gX10 g a_this a_this_fewest a_this_strokes fewest strokes strokeCount ++ (gX0 g a_p2 a_p2_codes p2_codes p2_length ++ (gX1 g a_p3 a_p3_outlines a_p3_words p3_outlines p3_words p3_size))) := by
  refine Ki0.mk (cc := cX10_firstBestAt) (nL := 5) (ty := .int) (by decide +kernel) rfl (Nat.le_of_ble_eq_true rfl) ?_
  intro p e s m below meth c A Q ls F hl V ret
  have hx := F.x
  have hb := F.b
  have hl : lv_has ls 5 [(0, .ref a_this), (1, .int p1), (2, .ref a_p2), (3, .ref a_p3)] := hl
  have B3 :  ∀ (n : Nat), ∀ {H : Heap} {locs : List Loc} {ls : Array Slot} (v4 : Int32) (V : VW g A s.heap H locs (gX10 g a_this a_this_fewest a_this_strokes fewest strokes strokeCount ++ (gX0 g a_p2 a_p2_codes p2_codes p2_length ++ (gX1 g a_p3 a_p3_outlines a_p3_words p3_outlines p3_words p3_size)))) (hl : lv_has ls 5 [(0, .ref a_this), (1, .int p1), (2, .ref a_p2), (3, .ref a_p3), (4, .int v4)]) (hw : wX10_firstBestAt_3 fewest p2_codes p2_length p3_outlines p3_words p3_size p1 P n v4), W p l e (kR 4 97 0 0) s m ([.ref a_this, .int p1, .ref a_p2, .ref a_p3] : List Value).toArray below meth c H locs 0 0 Q (F0 m 3 ls []) := by
    intro n
    induction n with
    | zero => intro _ _ _ _ V hl hw; exact hw.elim
    | succ n ih =>
      intro H locs ls v4 V hl hw
      refine lv_iload hx hb dX10_firstBestAt_3 (lv_at hl 4 rfl) ?_
      refine lv_aload_n hx hb dX10_firstBestAt_5 rfl (lv_at hl 3 rfl) ?_
      refine kget F V 1 2 5 rfl rfl iX10_firstBestAt_X1 fX10_firstBestAt_33 (by decide) rfl rfl dX10_firstBestAt_6 ?_
      refine lv_icmp_ge (tgt := 41) hx hb dX10_firstBestAt_9 (by decide) (fun c_9 => ?_) (fun c_9 => ?_)
      · have hw := hw.1 c_9
        refine lv_iconst (v := (-1)) hx hb dX10_firstBestAt_41 (by decide) ?_
        exact ret _ _ _ _ _ rfl dX10_firstBestAt_42 V hw
      · have hw := hw.2 c_9
        refine lv_aload_n hx hb dX10_firstBestAt_12 rfl (lv_at hl 0 rfl) ?_
        refine lv_iload hx hb dX10_firstBestAt_13 (lv_at hl 4 rfl) ?_
        refine lv_iload_n hx hb dX10_firstBestAt_15 rfl (lv_at hl 1 rfl) ?_
        refine lv_aload_n hx hb dX10_firstBestAt_16 rfl (lv_at hl 2 rfl) ?_
        refine lv_aload_n hx hb dX10_firstBestAt_17 rfl (lv_at hl 3 rfl) ?_
        refine kVi0 (rest := []) F hl V [0, 1, 2, 3, 4, 5, 6, 7] [] [0, 1, 2, 3, 4, 5, 6, 7] (gX10 g a_this a_this_fewest a_this_strokes fewest strokes strokeCount ++ (gX0 g a_p2 a_p2_codes p2_codes p2_length ++ (gX1 g a_p3 a_p3_outlines a_p3_words p3_outlines p3_words p3_size))) a_this 6 0 rfl rfl (kX10_fewestWith l g a_this a_this_fewest a_this_strokes a_p2 a_p2_codes a_p3 a_p3_outlines a_p3_words fewest strokes strokeCount p2_codes p2_length p3_outlines p3_words p3_size v4 p1 _ hw) gX10_firstBestAt_X10_fewestWith rfl 4 rfl hdX10_fewestWith rfl rfl (fun _ => rfl) rfl rfl rfl (by decide) ⟨Nat.le_of_ble_eq_true rfl, Nat.le_of_ble_eq_true rfl⟩ ⟨Nat.le_of_ble_eq_true rfl, Nat.le_of_ble_eq_true rfl⟩ (Nat.le_of_ble_eq_true rfl) rfl dX10_firstBestAt_18 (fun r_18 H locs hw V => ?_)
        refine lv_aload_n hx hb dX10_firstBestAt_21 rfl (lv_at hl 0 rfl) ?_
        refine kget F V 6 0 0 rfl rfl iX10_firstBestAt_X10 fX10_firstBestAt_9 (by decide) rfl rfl dX10_firstBestAt_22 ?_
        refine lv_iload_n hx hb dX10_firstBestAt_25 rfl (lv_at hl 1 rfl) ?_
        refine kSi0 (rest := [.int r_18]) F hl V [1] [0, 2, 3, 4, 5, 6, 7] [0, 7, 1, 2, 3, 4, 5, 6] (gX10 g a_this a_this_fewest a_this_strokes fewest strokes strokeCount ++ (gX0 g a_p2 a_p2_codes p2_codes p2_length ++ (gX1 g a_p3 a_p3_outlines a_p3_words p3_outlines p3_words p3_size))) (kX6_at l g a_this_fewest 61 fewest p1 _ hw) gX10_firstBestAt_X6_at rfl 2 rfl hdX6_at rfl rfl (fun _ => rfl) rfl rfl rfl (by decide) ⟨Nat.le_of_ble_eq_true rfl, Nat.le_of_ble_eq_true rfl⟩ ⟨Nat.le_of_ble_eq_true rfl, Nat.le_of_ble_eq_true rfl⟩ (Nat.le_of_ble_eq_true rfl) rfl dX10_firstBestAt_26 (fun r_26 H locs hw V => ?_)
        refine lv_icmp_ne (tgt := 35) hx hb dX10_firstBestAt_29 (by decide) (fun c_29 => ?_) (fun c_29 => ?_)
        · have hw := hw.1 c_29
          refine lv_iinc (v := v4 + 1) (lv' := [(4, .int (v4 + 1)), (0, .ref a_this), (1, .int p1), (2, .ref a_p2), (3, .ref a_p3)]) hx hb dX10_firstBestAt_35 hl (k := 4) rfl rfl (by decide) rfl (fun ls hl => ?_)
          refine lv_goto (tgt := 3) hx hb dX10_firstBestAt_38 (by decide) ?_
          exact ih (v4 + 1) V (lv_sub hl [1, 2, 3, 4, 0] rfl) hw
        · have hw := hw.2 c_29
          refine lv_iload hx hb dX10_firstBestAt_32 (lv_at hl 4 rfl) ?_
          exact ret _ _ _ _ _ rfl dX10_firstBestAt_34 V hw
  refine lv_iconst (v := 0) hx hb dX10_firstBestAt_0 (by decide) ?_
  refine lv_istore (lv' := [(4, .int 0), (0, .ref a_this), (1, .int p1), (2, .ref a_p2), (3, .ref a_p3)]) hx hb dX10_firstBestAt_1 hl (by decide) rfl (fun ls hl => ?_)
  obtain ⟨n_3, hw⟩ := hw
  exact B3  n_3 0 V (lv_sub hl [1, 2, 3, 4, 0] rfl) hw
theorem hdX10_addOutline : yX10_addOutline.cls = RX10 ∧ yX10_addOutline.cls ≠ "java/lang/invoke/MethodHandle" ∧ yX10_addOutline.cls ≠ "java/lang/invoke/VarHandle" ∧ (parseMethodDescriptor yX10_addOutline.desc).map (fun d => d.parameters.length) = some 1 := by decide +kernel
theorem fX10_addOutline_15 : Cond.fieldLink RX10 15 RX10 "strokes" "[I" ∈ wsX10_addOutline := by decide +kernel
theorem iX10_addOutline_X10 : ∀ w ∈ u_ws RX10 TX10 3, w ∈ wsX10_addOutline := by decide +kernel
theorem fX10_addOutline_18 : Cond.fieldLink RX10 18 RX10 "strokeCount" "I" ∈ wsX10_addOutline := by decide +kernel
def wX10_addOutline_8 (p1 : Int64) (P : (Nat → Int32) → Int32 → Prop) : Nat → Int32 → Int32 → (Nat → Int32) → Int32 → Prop
  | 0, _, _, _, _ => False
  | n + 1, v3, v4, strokes, strokeCount => (v3 ≤ v4 → P strokes strokeCount) ∧ (¬ (v3 ≤ v4) → wX5_strokeOf p1 v4 (fun r_25 => wX6_put 240 strokeCount r_25 (fun strokes_28 => ∀ strokeCount_38 : Int32, strokeCount_38 = (strokeCount + 1) → (wX10_addOutline_8 p1 P n) v3 (v4 + 1) strokes_28 strokeCount_38) strokes))
def wX10_addOutline (p1 : Int64) (P : (Nat → Int32) → Int32 → Prop) (strokes : Nat → Int32) (strokeCount : Int32) : Prop := wX5_length p1 (fun r_1 => ∃ n_8, wX10_addOutline_8 p1 P n_8 r_1 0 strokes strokeCount)
set_option maxHeartbeats 4000000 in
set_option maxRecDepth 100000 in
theorem kX10_addOutline (l : Launch) (g : kT) (a_this a_this_fewest a_this_strokes : Nat) (fewest : Nat → Int32) (strokes : Nat → Int32) (strokeCount : Int32) (p1 : Int64) (P : (Nat → Int32) → Int32 → Prop) (hw : wX10_addOutline p1 P strokes strokeCount) : Kv2 l g yX10_addOutline wsX10_addOutline 2 45 0 0 [.ref a_this, .long p1] (gX10 g a_this a_this_fewest a_this_strokes fewest strokes strokeCount) P (fun strokes strokeCount => (gX10 g a_this a_this_fewest a_this_strokes fewest strokes strokeCount)) := by
  refine Kv2.mk (cc := cX10_addOutline) (nL := 5) (by decide +kernel) rfl (Nat.le_of_ble_eq_true rfl) ?_
  intro p e s m below meth c A Q ls F hl V ret _
  have hx := F.x
  have hb := F.b
  have hl : lv_has ls 5 [(0, .ref a_this), (1, .long p1)] := hl
  have B8 :  ∀ (n : Nat), ∀ {H : Heap} {locs : List Loc} {ls : Array Slot} (v3 : Int32) (v4 : Int32) (strokes : Nat → Int32) (strokeCount : Int32) (V : VW g A s.heap H locs (gX10 g a_this a_this_fewest a_this_strokes fewest strokes strokeCount)) (hl : lv_has ls 5 [(0, .ref a_this), (1, .long p1), (3, .int v3), (4, .int v4)]) (hw : wX10_addOutline_8 p1 P n v3 v4 strokes strokeCount), W p l e (kR 2 45 0 0) s m ([.ref a_this, .long p1] : List Value).toArray below meth c H locs 0 0 Q (F0 m 8 ls []) := by
    intro n
    induction n with
    | zero => intro _ _ _ _ _ _ _ V hl hw; exact hw.elim
    | succ n ih =>
      intro H locs ls v3 v4 strokes strokeCount V hl hw
      refine lv_iload hx hb dX10_addOutline_8 (lv_at hl 3 rfl) ?_
      refine lv_iload_n hx hb dX10_addOutline_10 rfl (lv_at hl 2 rfl) ?_
      refine lv_icmp_ge (tgt := 47) hx hb dX10_addOutline_11 (by decide) (fun c_11 => ?_) (fun c_11 => ?_)
      · have hw := hw.1 c_11
        exact ret _ _ _ _ _ _ dX10_addOutline_47 V hw
      · have hw := hw.2 c_11
        refine lv_aload_n hx hb dX10_addOutline_14 rfl (lv_at hl 0 rfl) ?_
        refine kget F V 6 1 0 rfl rfl iX10_addOutline_X10 fX10_addOutline_15 (by decide) rfl rfl dX10_addOutline_15 ?_
        refine lv_aload_n hx hb dX10_addOutline_18 rfl (lv_at hl 0 rfl) ?_
        refine kget F V 6 2 0 rfl rfl iX10_addOutline_X10 fX10_addOutline_18 (by decide) rfl rfl dX10_addOutline_19 ?_
        refine lv_lload_n hx hb dX10_addOutline_22 rfl (lv_at hl 1 rfl) ?_
        refine lv_iload hx hb dX10_addOutline_23 (lv_at hl 3 rfl) ?_
        refine kSi0n (rest := [.int strokeCount, .ref a_this_strokes]) F hl V (kX5_strokeOf l g p1 v4 _ hw) gX10_addOutline_X5_strokeOf rfl 2 rfl hdX5_strokeOf ⟨Nat.le_of_ble_eq_true rfl, Nat.le_of_ble_eq_true rfl⟩ ⟨Nat.le_of_ble_eq_true rfl, Nat.le_of_ble_eq_true rfl⟩ (Nat.le_of_ble_eq_true rfl) rfl dX10_addOutline_25 (fun r_25 H locs hw V => ?_)
        refine kSv1 (rest := []) F hl V [2] [0, 1] [0, 1, 2] (fun strokes_28 => (gX10 g a_this a_this_fewest a_this_strokes fewest strokes_28 strokeCount)) (kX6_put l g a_this_strokes 240 strokes strokeCount r_25 _ hw) gX10_addOutline_X6_put rfl 3 rfl hdX6_put rfl rfl (fun _ => rfl) rfl rfl rfl (by decide) ⟨Nat.le_of_ble_eq_true rfl, Nat.le_of_ble_eq_true rfl⟩ ⟨Nat.le_of_ble_eq_true rfl, Nat.le_of_ble_eq_true rfl⟩ (Nat.le_of_ble_eq_true rfl) rfl dX10_addOutline_28 (fun strokes_28 H locs hw V => ?_)
        refine lv_aload_n hx hb dX10_addOutline_31 rfl (lv_at hl 0 rfl) ?_
        refine lv_dup hx hb dX10_addOutline_32 rfl ?_
        refine kget F V 6 2 0 rfl rfl iX10_addOutline_X10 fX10_addOutline_18 (by decide) rfl rfl dX10_addOutline_33 ?_
        refine lv_iconst (v := 1) hx hb dX10_addOutline_36 (by decide) ?_
        refine lv_iadd hx hb dX10_addOutline_37 ?_
        refine lv_topi (fun strokeCount_38 estrokeCount_38 => ?_)
        have hw := hw strokeCount_38 estrokeCount_38
        refine kput F V 6 2 0 tyX10_ok nmX10 rfl rfl iX10_addOutline_X10 fX10_addOutline_18 (by decide) rfl rfl rfl rfl (Nat.le_of_ble_eq_true rfl) dX10_addOutline_38 (fun H locs V => ?_)
        have V : VW g A s.heap H locs (gX10 g a_this a_this_fewest a_this_strokes fewest strokes_28 strokeCount_38) := V
        refine lv_iinc (v := v4 + 1) (lv' := [(4, .int (v4 + 1)), (0, .ref a_this), (1, .long p1), (3, .int v3)]) hx hb dX10_addOutline_41 hl (k := 3) rfl rfl (by decide) rfl (fun ls hl => ?_)
        refine lv_goto (tgt := 8) hx hb dX10_addOutline_44 (by decide) ?_
        exact ih v3 (v4 + 1) strokes_28 strokeCount_38 V (lv_sub hl [1, 2, 3, 0] rfl) hw
  refine lv_lload_n hx hb dX10_addOutline_0 rfl (lv_at hl 1 rfl) ?_
  refine kSi0n (rest := []) F hl V (kX5_length l g p1 _ hw) gX10_addOutline_X5_length rfl 1 rfl hdX5_length ⟨Nat.le_of_ble_eq_true rfl, Nat.le_of_ble_eq_true rfl⟩ ⟨Nat.le_of_ble_eq_true rfl, Nat.le_of_ble_eq_true rfl⟩ (Nat.le_of_ble_eq_true rfl) rfl dX10_addOutline_1 (fun r_1 H locs hw V => ?_)
  refine lv_istore_n (lv' := [(3, .int r_1), (0, .ref a_this), (1, .long p1)]) hx hb dX10_addOutline_4 rfl hl (by decide) rfl (fun ls hl => ?_)
  refine lv_iconst (v := 0) hx hb dX10_addOutline_5 (by decide) ?_
  refine lv_istore (lv' := [(4, .int 0), (3, .int r_1), (0, .ref a_this), (1, .long p1)]) hx hb dX10_addOutline_6 hl (by decide) rfl (fun ls hl => ?_)
  obtain ⟨n_8, hw⟩ := hw
  exact B8  n_8 r_1 0 strokes strokeCount V (lv_sub hl [2, 3, 1, 0] rfl) hw
theorem hdX10_write : yX10_write.cls = RX10 ∧ yX10_write.cls ≠ "java/lang/invoke/MethodHandle" ∧ yX10_write.cls ≠ "java/lang/invoke/VarHandle" ∧ (parseMethodDescriptor yX10_write.desc).map (fun d => d.parameters.length) = some 2 := by decide +kernel
theorem fX10_write_18 : Cond.fieldLink RX10 18 RX10 "strokeCount" "I" ∈ wsX10_write := by decide +kernel
theorem iX10_write_X10 : ∀ w ∈ u_ws RX10 TX10 3, w ∈ wsX10_write := by decide +kernel
theorem fX10_write_22 : Cond.fieldLink RX10 22 RX0 "length" "I" ∈ wsX10_write := by decide +kernel
theorem iX10_write_X0 : ∀ w ∈ u_ws RX0 TX0 2, w ∈ wsX10_write := by decide +kernel
def wX10_write_10 (fewest : Nat → Int32) (p1_codes : Nat → Int32) (p1_length : Int32) (p2_outlines : Nat → Int64) (p2_words : Nat → Int64) (p2_size : Int32) (P : (Nat → Int32) → Int32 → Prop) : Nat → Int32 → Int32 → (Nat → Int32) → Int32 → Prop
  | 0, _, _, _, _ => False
  | n + 1, v3, v4, strokes, strokeCount => (60 ≤ v4 → P strokes strokeCount) ∧ (¬ (60 ≤ v4) → (p1_length ≤ v3 → P strokes strokeCount) ∧ (¬ (p1_length ≤ v3) → wX10_firstBestAt fewest p1_codes p1_length p2_outlines p2_words p2_size v3 (fun r_29 => wX1_outlineOf p2_outlines r_29 (fun r_38 => wX10_addOutline r_38 (fun strokes_41 strokeCount_41 => wX1_wordOf p2_words r_29 (fun r_48 => wX9_length r_48 (fun r_51 => ∀ v3_55 : Int32, v3_55 = (v3 + r_51) → (wX10_write_10 fewest p1_codes p1_length p2_outlines p2_words p2_size P n) v3_55 (v4 + 1) strokes_41 strokeCount_41))) strokes strokeCount))))
def wX10_write (fewest : Nat → Int32) (p1_codes : Nat → Int32) (p1_length : Int32) (p2_outlines : Nat → Int64) (p2_words : Nat → Int64) (p2_size : Int32) (P : (Nat → Int32) → Int32 → Prop) (strokes : Nat → Int32) (strokeCount : Int32) : Prop := ∃ n_10, wX10_write_10 fewest p1_codes p1_length p2_outlines p2_words p2_size P n_10 0 0 strokes 0
set_option maxHeartbeats 4000000 in
set_option maxRecDepth 100000 in
theorem kX10_write (l : Launch) (g : kT) (a_this a_this_fewest a_this_strokes a_p1 a_p1_codes a_p2 a_p2_outlines a_p2_words : Nat) (fewest : Nat → Int32) (strokes : Nat → Int32) (strokeCount : Int32) (p1_codes : Nat → Int32) (p1_length : Int32) (p2_outlines : Nat → Int64) (p2_words : Nat → Int64) (p2_size : Int32) (P : (Nat → Int32) → Int32 → Prop) (hw : wX10_write fewest p1_codes p1_length p2_outlines p2_words p2_size P strokes strokeCount) : Kv2 l g yX10_write wsX10_write 5 121 0 0 [.ref a_this, .ref a_p1, .ref a_p2] (gX10 g a_this a_this_fewest a_this_strokes fewest strokes strokeCount ++ (gX0 g a_p1 a_p1_codes p1_codes p1_length ++ (gX1 g a_p2 a_p2_outlines a_p2_words p2_outlines p2_words p2_size))) P (fun strokes strokeCount => (gX10 g a_this a_this_fewest a_this_strokes fewest strokes strokeCount ++ (gX0 g a_p1 a_p1_codes p1_codes p1_length ++ (gX1 g a_p2 a_p2_outlines a_p2_words p2_outlines p2_words p2_size)))) := by
  refine Kv2.mk (cc := cX10_write) (nL := 6) (by decide +kernel) rfl (Nat.le_of_ble_eq_true rfl) ?_
  intro p e s m below meth c A Q ls F hl V ret _
  have hx := F.x
  have hb := F.b
  have hl : lv_has ls 6 [(0, .ref a_this), (1, .ref a_p1), (2, .ref a_p2)] := hl
  have B10 :  ∀ (n : Nat), ∀ {H : Heap} {locs : List Loc} {ls : Array Slot} (v3 : Int32) (v4 : Int32) (strokes : Nat → Int32) (strokeCount : Int32) (V : VW g A s.heap H locs (gX10 g a_this a_this_fewest a_this_strokes fewest strokes strokeCount ++ (gX0 g a_p1 a_p1_codes p1_codes p1_length ++ (gX1 g a_p2 a_p2_outlines a_p2_words p2_outlines p2_words p2_size)))) (hl : lv_has ls 6 [(0, .ref a_this), (1, .ref a_p1), (2, .ref a_p2), (3, .int v3), (4, .int v4)]) (hw : wX10_write_10 fewest p1_codes p1_length p2_outlines p2_words p2_size P n v3 v4 strokes strokeCount), W p l e (kR 5 121 0 0) s m ([.ref a_this, .ref a_p1, .ref a_p2] : List Value).toArray below meth c H locs 0 0 Q (F0 m 10 ls []) := by
    intro n
    induction n with
    | zero => intro _ _ _ _ _ _ _ V hl hw; exact hw.elim
    | succ n ih =>
      intro H locs ls v3 v4 strokes strokeCount V hl hw
      refine lv_iload hx hb dX10_write_10 (lv_at hl 4 rfl) ?_
      refine lv_bipush (v := 60) hx hb dX10_write_12 (by decide) ?_
      refine lv_icmp_ge (tgt := 62) hx hb dX10_write_14 (by decide) (fun c_14 => ?_) (fun c_14 => ?_)
      · have hw := hw.1 c_14
        exact ret _ _ _ _ _ _ dX10_write_62 V hw
      · have hw := hw.2 c_14
        refine lv_iload_n hx hb dX10_write_17 rfl (lv_at hl 3 rfl) ?_
        refine lv_aload_n hx hb dX10_write_18 rfl (lv_at hl 1 rfl) ?_
        refine kget F V 0 1 3 rfl rfl iX10_write_X0 fX10_write_22 (by decide) rfl rfl dX10_write_19 ?_
        refine lv_icmp_ge (tgt := 62) hx hb dX10_write_22 (by decide) (fun c_22 => ?_) (fun c_22 => ?_)
        · have hw := hw.1 c_22
          exact ret _ _ _ _ _ _ dX10_write_62 V hw
        · have hw := hw.2 c_22
          refine lv_aload_n hx hb dX10_write_25 rfl (lv_at hl 0 rfl) ?_
          refine lv_iload_n hx hb dX10_write_26 rfl (lv_at hl 3 rfl) ?_
          refine lv_aload_n hx hb dX10_write_27 rfl (lv_at hl 1 rfl) ?_
          refine lv_aload_n hx hb dX10_write_28 rfl (lv_at hl 2 rfl) ?_
          refine kVi0 (rest := []) F hl V [0, 1, 2, 3, 4, 5, 6, 7] [] [0, 1, 2, 3, 4, 5, 6, 7] (gX10 g a_this a_this_fewest a_this_strokes fewest strokes strokeCount ++ (gX0 g a_p1 a_p1_codes p1_codes p1_length ++ (gX1 g a_p2 a_p2_outlines a_p2_words p2_outlines p2_words p2_size))) a_this 6 0 rfl rfl (kX10_firstBestAt l g a_this a_this_fewest a_this_strokes a_p1 a_p1_codes a_p2 a_p2_outlines a_p2_words fewest strokes strokeCount p1_codes p1_length p2_outlines p2_words p2_size v3 _ hw) gX10_write_X10_firstBestAt rfl 3 rfl hdX10_firstBestAt rfl rfl (fun _ => rfl) rfl rfl rfl (by decide) ⟨Nat.le_of_ble_eq_true rfl, Nat.le_of_ble_eq_true rfl⟩ ⟨Nat.le_of_ble_eq_true rfl, Nat.le_of_ble_eq_true rfl⟩ (Nat.le_of_ble_eq_true rfl) rfl dX10_write_29 (fun r_29 H locs hw V => ?_)
          refine lv_istore (lv' := [(5, .int r_29), (0, .ref a_this), (1, .ref a_p1), (2, .ref a_p2), (3, .int v3), (4, .int v4)]) hx hb dX10_write_32 hl (by decide) rfl (fun ls hl => ?_)
          refine lv_aload_n hx hb dX10_write_34 rfl (lv_at hl 1 rfl) ?_
          refine lv_aload_n hx hb dX10_write_35 rfl (lv_at hl 3 rfl) ?_
          refine lv_iload hx hb dX10_write_36 (lv_at hl 0 rfl) ?_
          refine kVl0 (rest := [.ref a_this]) F hl V [5, 6, 7] [0, 1, 2, 3, 4] [0, 1, 2, 3, 4, 5, 6, 7] (gX10 g a_this a_this_fewest a_this_strokes fewest strokes strokeCount ++ (gX0 g a_p1 a_p1_codes p1_codes p1_length ++ (gX1 g a_p2 a_p2_outlines a_p2_words p2_outlines p2_words p2_size))) a_p2 1 5 rfl rfl (kX1_outlineOf l g a_p2 a_p2_outlines a_p2_words p2_outlines p2_words p2_size r_29 _ hw) gX10_write_X1_outlineOf rfl 1 rfl hdX1_outlineOf rfl rfl (fun _ => rfl) rfl rfl rfl (by decide) ⟨Nat.le_of_ble_eq_true rfl, Nat.le_of_ble_eq_true rfl⟩ ⟨Nat.le_of_ble_eq_true rfl, Nat.le_of_ble_eq_true rfl⟩ (Nat.le_of_ble_eq_true rfl) rfl dX10_write_38 (fun r_38 H locs hw V => ?_)
          refine kVv2 (rest := []) F hl V [0, 1, 2] [3, 4, 5, 6, 7] [5, 6, 7, 0, 1, 2, 3, 4] (fun strokes_41 strokeCount_41 => (gX10 g a_this a_this_fewest a_this_strokes fewest strokes_41 strokeCount_41 ++ (gX0 g a_p1 a_p1_codes p1_codes p1_length ++ (gX1 g a_p2 a_p2_outlines a_p2_words p2_outlines p2_words p2_size)))) a_this 6 0 rfl rfl (kX10_addOutline l g a_this a_this_fewest a_this_strokes fewest strokes strokeCount r_38 _ hw) gX10_write_X10_addOutline rfl 1 rfl hdX10_addOutline rfl rfl (fun _ _ => rfl) rfl rfl rfl (by decide) ⟨Nat.le_of_ble_eq_true rfl, Nat.le_of_ble_eq_true rfl⟩ ⟨Nat.le_of_ble_eq_true rfl, Nat.le_of_ble_eq_true rfl⟩ (Nat.le_of_ble_eq_true rfl) rfl dX10_write_41 (fun strokes_41 strokeCount_41 H locs hw V => ?_)
          refine lv_iload_n hx hb dX10_write_44 rfl (lv_at hl 4 rfl) ?_
          refine lv_aload_n hx hb dX10_write_45 rfl (lv_at hl 3 rfl) ?_
          refine lv_iload hx hb dX10_write_46 (lv_at hl 0 rfl) ?_
          refine kVl0 (rest := [.int v3]) F hl V [5, 6, 7] [0, 1, 2, 3, 4] [0, 1, 2, 3, 4, 5, 6, 7] (gX10 g a_this a_this_fewest a_this_strokes fewest strokes_41 strokeCount_41 ++ (gX0 g a_p1 a_p1_codes p1_codes p1_length ++ (gX1 g a_p2 a_p2_outlines a_p2_words p2_outlines p2_words p2_size))) a_p2 1 5 rfl rfl (kX1_wordOf l g a_p2 a_p2_outlines a_p2_words p2_outlines p2_words p2_size r_29 _ hw) gX10_write_X1_wordOf rfl 1 rfl hdX1_wordOf rfl rfl (fun _ => rfl) rfl rfl rfl (by decide) ⟨Nat.le_of_ble_eq_true rfl, Nat.le_of_ble_eq_true rfl⟩ ⟨Nat.le_of_ble_eq_true rfl, Nat.le_of_ble_eq_true rfl⟩ (Nat.le_of_ble_eq_true rfl) rfl dX10_write_48 (fun r_48 H locs hw V => ?_)
          refine kSi0n (rest := [.int v3]) F hl V (kX9_length l g r_48 _ hw) gX10_write_X9_length rfl 1 rfl hdX9_length ⟨Nat.le_of_ble_eq_true rfl, Nat.le_of_ble_eq_true rfl⟩ ⟨Nat.le_of_ble_eq_true rfl, Nat.le_of_ble_eq_true rfl⟩ (Nat.le_of_ble_eq_true rfl) rfl dX10_write_51 (fun r_51 H locs hw V => ?_)
          refine lv_iadd hx hb dX10_write_54 ?_
          refine lv_topi (fun v3_55 ev3_55 => ?_)
          have hw := hw v3_55 ev3_55
          refine lv_istore_n (lv' := [(3, .int v3_55), (5, .int r_29), (0, .ref a_this), (1, .ref a_p1), (2, .ref a_p2), (4, .int v4)]) hx hb dX10_write_55 rfl hl (by decide) rfl (fun ls hl => ?_)
          refine lv_iinc (v := v4 + 1) (lv' := [(4, .int (v4 + 1)), (3, .int v3_55), (5, .int r_29), (0, .ref a_this), (1, .ref a_p1), (2, .ref a_p2)]) hx hb dX10_write_56 hl (k := 5) rfl rfl (by decide) rfl (fun ls hl => ?_)
          refine lv_goto (tgt := 10) hx hb dX10_write_59 (by decide) ?_
          exact ih v3_55 (v4 + 1) strokes_41 strokeCount_41 V (lv_sub hl [3, 4, 5, 1, 0] rfl) hw
  refine lv_aload_n hx hb dX10_write_0 rfl (lv_at hl 0 rfl) ?_
  refine lv_iconst (v := 0) hx hb dX10_write_1 (by decide) ?_
  refine kput F V 6 2 0 tyX10_ok nmX10 rfl rfl iX10_write_X10 fX10_write_18 (by decide) rfl rfl rfl rfl (Nat.le_of_ble_eq_true rfl) dX10_write_2 (fun H locs V => ?_)
  have V : VW g A s.heap H locs (gX10 g a_this a_this_fewest a_this_strokes fewest strokes 0 ++ (gX0 g a_p1 a_p1_codes p1_codes p1_length ++ (gX1 g a_p2 a_p2_outlines a_p2_words p2_outlines p2_words p2_size))) := V
  refine lv_iconst (v := 0) hx hb dX10_write_5 (by decide) ?_
  refine lv_istore_n (lv' := [(3, .int 0), (0, .ref a_this), (1, .ref a_p1), (2, .ref a_p2)]) hx hb dX10_write_6 rfl hl (by decide) rfl (fun ls hl => ?_)
  refine lv_iconst (v := 0) hx hb dX10_write_7 (by decide) ?_
  refine lv_istore (lv' := [(4, .int 0), (3, .int 0), (0, .ref a_this), (1, .ref a_p1), (2, .ref a_p2)]) hx hb dX10_write_8 hl (by decide) rfl (fun ls hl => ?_)
  obtain ⟨n_10, hw⟩ := hw
  exact B10  n_10 0 0 strokes 0 V (lv_sub hl [2, 3, 4, 1, 0] rfl) hw
theorem hdX5_of : yX5_of.cls ≠ "java/lang/invoke/MethodHandle" ∧ yX5_of.cls ≠ "java/lang/invoke/VarHandle" ∧ (parseMethodDescriptor yX5_of.desc).map (fun d => d.parameters.length) = some 3 := by decide +kernel
def wX5_of_5 (p1_n : Nat) (p1 : Nat → Int32) (p2 : Int32) (p3 : Int32) (P : Int64 → Prop) : Nat → Int64 → Int32 → Prop
  | 0, _, _ => False
  | n + 1, v3, v5 => (p3 ≤ v5 → P v3) ∧ (¬ (p3 ≤ v5) → (4 ≤ v5 → P v3) ∧ (¬ (4 ≤ v5) → wX6_at p1_n p1 (p2 + v5) (fun r_25 => wX5_with v3 v5 r_25 (fun r_28 => (wX5_of_5 p1_n p1 p2 p3 P n) r_28 (v5 + 1)))))
def wX5_of (p1_n : Nat) (p1 : Nat → Int32) (p2 : Int32) (p3 : Int32) (P : Int64 → Prop) : Prop := ∃ n_5, wX5_of_5 p1_n p1 p2 p3 P n_5 0 0
set_option maxHeartbeats 4000000 in
set_option maxRecDepth 100000 in
theorem kX5_of (l : Launch) (g : kT) (a_p1 : Nat) (p1_n : Nat) (p1 : Nat → Int32) (p2 : Int32) (p3 : Int32) (P : Int64 → Prop) (hw : wX5_of p1_n p1 p2 p3 P) : Kl0 l g yX5_of wsX5_of 1 23 0 0 [.ref a_p1, .int p2, .int p3] (gAI g a_p1 p1_n p1) P (gAI g a_p1 p1_n p1) := by
  refine Kl0.mk (cc := cX5_of) (nL := 6) (by decide +kernel) rfl (Nat.le_of_ble_eq_true rfl) ?_
  intro p e s m below meth c A Q ls F hl V ret
  have hx := F.x
  have hb := F.b
  have hl : lv_has ls 6 [(0, .ref a_p1), (1, .int p2), (2, .int p3)] := hl
  have B5 :  ∀ (n : Nat), ∀ {H : Heap} {locs : List Loc} {ls : Array Slot} (v3 : Int64) (v5 : Int32) (V : VW g A s.heap H locs (gAI g a_p1 p1_n p1)) (hl : lv_has ls 6 [(0, .ref a_p1), (1, .int p2), (2, .int p3), (3, .long v3), (5, .int v5)]) (hw : wX5_of_5 p1_n p1 p2 p3 P n v3 v5), W p l e (kR 1 23 0 0) s m ([.ref a_p1, .int p2, .int p3] : List Value).toArray below meth c H locs 0 0 Q (F0 m 5 ls []) := by
    intro n
    induction n with
    | zero => intro _ _ _ _ _ V hl hw; exact hw.elim
    | succ n ih =>
      intro H locs ls v3 v5 V hl hw
      refine lv_iload hx hb dX5_of_5 (lv_at hl 4 rfl) ?_
      refine lv_iload_n hx hb dX5_of_7 rfl (lv_at hl 2 rfl) ?_
      refine lv_icmp_ge (tgt := 38) hx hb dX5_of_8 (by decide) (fun c_8 => ?_) (fun c_8 => ?_)
      · have hw := hw.1 c_8
        refine lv_lload_n hx hb dX5_of_38 rfl (lv_at hl 3 rfl) ?_
        exact ret _ _ _ _ _ dX5_of_39 V hw
      · have hw := hw.2 c_8
        refine lv_iload hx hb dX5_of_11 (lv_at hl 4 rfl) ?_
        refine lv_iconst (v := 4) hx hb dX5_of_13 (by decide) ?_
        refine lv_icmp_ge (tgt := 38) hx hb dX5_of_14 (by decide) (fun c_14 => ?_) (fun c_14 => ?_)
        · have hw := hw.1 c_14
          refine lv_lload_n hx hb dX5_of_38 rfl (lv_at hl 3 rfl) ?_
          exact ret _ _ _ _ _ dX5_of_39 V hw
        · have hw := hw.2 c_14
          refine lv_lload_n hx hb dX5_of_17 rfl (lv_at hl 3 rfl) ?_
          refine lv_iload hx hb dX5_of_18 (lv_at hl 4 rfl) ?_
          refine lv_aload_n hx hb dX5_of_20 rfl (lv_at hl 0 rfl) ?_
          refine lv_iload_n hx hb dX5_of_21 rfl (lv_at hl 1 rfl) ?_
          refine lv_iload hx hb dX5_of_22 (lv_at hl 4 rfl) ?_
          refine lv_iadd hx hb dX5_of_24 ?_
          refine kSi0 (rest := [.int v5, .long v3]) F hl V [0] [] [0] (gAI g a_p1 p1_n p1) (kX6_at l g a_p1 p1_n p1 (p2 + v5) _ hw) gX5_of_X6_at rfl 2 rfl hdX6_at rfl rfl (fun _ => rfl) rfl rfl rfl (by decide) ⟨Nat.le_of_ble_eq_true rfl, Nat.le_of_ble_eq_true rfl⟩ ⟨Nat.le_of_ble_eq_true rfl, Nat.le_of_ble_eq_true rfl⟩ (Nat.le_of_ble_eq_true rfl) rfl dX5_of_25 (fun r_25 H locs hw V => ?_)
          refine kSl0n (rest := []) F hl V (kX5_with l g v3 v5 r_25 _ hw) gX5_of_X5_with rfl 3 rfl hdX5_with ⟨Nat.le_of_ble_eq_true rfl, Nat.le_of_ble_eq_true rfl⟩ ⟨Nat.le_of_ble_eq_true rfl, Nat.le_of_ble_eq_true rfl⟩ (Nat.le_of_ble_eq_true rfl) rfl dX5_of_28 (fun r_28 H locs hw V => ?_)
          refine lv_lstore_n (lv' := [(3, .long r_28), (0, .ref a_p1), (1, .int p2), (2, .int p3), (5, .int v5)]) hx hb dX5_of_31 rfl hl (by decide) rfl (fun ls hl => ?_)
          refine lv_iinc (v := v5 + 1) (lv' := [(5, .int (v5 + 1)), (3, .long r_28), (0, .ref a_p1), (1, .int p2), (2, .int p3)]) hx hb dX5_of_32 hl (k := 4) rfl rfl (by decide) rfl (fun ls hl => ?_)
          refine lv_goto (tgt := 5) hx hb dX5_of_35 (by decide) ?_
          exact ih r_28 (v5 + 1) V (lv_sub hl [2, 3, 4, 1, 0] rfl) hw
  refine lv_lconst (v := 0) hx hb dX5_of_0 (by decide) ?_
  refine lv_lstore_n (lv' := [(3, .long 0), (0, .ref a_p1), (1, .int p2), (2, .int p3)]) hx hb dX5_of_1 rfl hl (by decide) rfl (fun ls hl => ?_)
  refine lv_iconst (v := 0) hx hb dX5_of_2 (by decide) ?_
  refine lv_istore (lv' := [(5, .int 0), (3, .long 0), (0, .ref a_p1), (1, .int p2), (2, .int p3)]) hx hb dX5_of_3 hl (by decide) rfl (fun ls hl => ?_)
  obtain ⟨n_5, hw⟩ := hw
  exact B5  n_5 0 0 V (lv_sub hl [2, 3, 4, 1, 0] rfl) hw
theorem hdX5_beginning : yX5_beginning.cls ≠ "java/lang/invoke/MethodHandle" ∧ yX5_beginning.cls ≠ "java/lang/invoke/VarHandle" ∧ (parseMethodDescriptor yX5_beginning.desc).map (fun d => d.parameters.length) = some 2 := by decide +kernel
def wX5_beginning (p1 : Int64) (p2 : Int32) (P : Int64 → Prop) : Prop := P (p1 &&& ((1 <<< ((p2 * 12).toInt64 &&& 63)) - 1))
set_option maxHeartbeats 4000000 in
set_option maxRecDepth 100000 in
theorem kX5_beginning (l : Launch) (g : kT) (p1 : Int64) (p2 : Int32) (P : Int64 → Prop) (hw : wX5_beginning p1 p2 P) : Kl0 l g yX5_beginning wsX5_beginning 0 0 0 0 [.long p1, .int p2] [] P [] := by
  refine Kl0.mk (cc := cX5_beginning) (nL := 3) (by decide +kernel) rfl (Nat.le_of_ble_eq_true rfl) ?_
  intro p e s m below meth c A Q ls F hl V ret
  have hx := F.x
  have hb := F.b
  have hl : lv_has ls 3 [(0, .long p1), (2, .int p2)] := hl
  refine lv_lload_n hx hb dX5_beginning_0 rfl (lv_at hl 0 rfl) ?_
  refine lv_lconst (v := 1) hx hb dX5_beginning_1 (by decide) ?_
  refine lv_iload_n hx hb dX5_beginning_2 rfl (lv_at hl 1 rfl) ?_
  refine lv_bipush (v := 12) hx hb dX5_beginning_3 (by decide) ?_
  refine lv_imul hx hb dX5_beginning_5 ?_
  refine lv_lshl hx hb dX5_beginning_6 rfl ?_
  refine lv_lconst (v := 1) hx hb dX5_beginning_7 (by decide) ?_
  refine lv_lsub hx hb dX5_beginning_8 ?_
  refine lv_land hx hb dX5_beginning_9 ?_
  exact ret _ _ _ _ _ dX5_beginning_10 V hw
theorem hdX1_find : yX1_find.cls = RX1 ∧ yX1_find.cls ≠ "java/lang/invoke/MethodHandle" ∧ yX1_find.cls ≠ "java/lang/invoke/VarHandle" ∧ (parseMethodDescriptor yX1_find.desc).map (fun d => d.parameters.length) = some 1 := by decide +kernel
theorem fX1_find_18 : Cond.fieldLink RX1 18 RX1 "size" "I" ∈ wsX1_find := by decide +kernel
theorem iX1_find_X1 : ∀ w ∈ u_ws RX1 TX1 3, w ∈ wsX1_find := by decide +kernel
theorem fX1_find_9 : Cond.fieldLink RX1 9 RX1 "outlines" "[J" ∈ wsX1_find := by decide +kernel
def wX1_find_2 (outlines : Nat → Int64) (size : Int32) (p1 : Int64) (P : Int32 → Prop) : Nat → Int32 → Prop
  | 0, _ => False
  | n + 1, v3 => (size ≤ v3 → P (-1)) ∧ (¬ (size ≤ v3) → wX6_at_ 24 outlines v3 (fun r_15 => (¬ (lg_cmp r_15 p1) = 0 → (wX1_find_2 outlines size p1 P n) (v3 + 1)) ∧ ((lg_cmp r_15 p1) = 0 → P v3)))
def wX1_find (outlines : Nat → Int64) (size : Int32) (p1 : Int64) (P : Int32 → Prop) : Prop := ∃ n_2, wX1_find_2 outlines size p1 P n_2 0
set_option maxHeartbeats 4000000 in
set_option maxRecDepth 100000 in
theorem kX1_find (l : Launch) (g : kT) (a_this a_this_outlines a_this_words : Nat) (outlines : Nat → Int64) (words : Nat → Int64) (size : Int32) (p1 : Int64) (P : Int32 → Prop) (hw : wX1_find outlines size p1 P) : Ki0 l g yX1_find wsX1_find 1 21 0 0 [.ref a_this, .long p1] (gX1 g a_this a_this_outlines a_this_words outlines words size) P (gX1 g a_this a_this_outlines a_this_words outlines words size) := by
  refine Ki0.mk (cc := cX1_find) (nL := 4) (ty := .int) (by decide +kernel) rfl (Nat.le_of_ble_eq_true rfl) ?_
  intro p e s m below meth c A Q ls F hl V ret
  have hx := F.x
  have hb := F.b
  have hl : lv_has ls 4 [(0, .ref a_this), (1, .long p1)] := hl
  have B2 :  ∀ (n : Nat), ∀ {H : Heap} {locs : List Loc} {ls : Array Slot} (v3 : Int32) (V : VW g A s.heap H locs (gX1 g a_this a_this_outlines a_this_words outlines words size)) (hl : lv_has ls 4 [(0, .ref a_this), (1, .long p1), (3, .int v3)]) (hw : wX1_find_2 outlines size p1 P n v3), W p l e (kR 1 21 0 0) s m ([.ref a_this, .long p1] : List Value).toArray below meth c H locs 0 0 Q (F0 m 2 ls []) := by
    intro n
    induction n with
    | zero => intro _ _ _ _ V hl hw; exact hw.elim
    | succ n ih =>
      intro H locs ls v3 V hl hw
      refine lv_iload_n hx hb dX1_find_2 rfl (lv_at hl 2 rfl) ?_
      refine lv_aload_n hx hb dX1_find_3 rfl (lv_at hl 0 rfl) ?_
      refine kget F V 1 2 0 rfl rfl iX1_find_X1 fX1_find_18 (by decide) rfl rfl dX1_find_4 ?_
      refine lv_icmp_ge (tgt := 31) hx hb dX1_find_7 (by decide) (fun c_7 => ?_) (fun c_7 => ?_)
      · have hw := hw.1 c_7
        refine lv_iconst (v := (-1)) hx hb dX1_find_31 (by decide) ?_
        exact ret _ _ _ _ _ rfl dX1_find_32 V hw
      · have hw := hw.2 c_7
        refine lv_aload_n hx hb dX1_find_10 rfl (lv_at hl 0 rfl) ?_
        refine kget F V 1 0 0 rfl rfl iX1_find_X1 fX1_find_9 (by decide) rfl rfl dX1_find_11 ?_
        refine lv_iload_n hx hb dX1_find_14 rfl (lv_at hl 2 rfl) ?_
        refine kSl0 (rest := []) F hl V [1] [0, 2] [0, 2, 1] (gX1 g a_this a_this_outlines a_this_words outlines words size) (kX6_at_ l g a_this_outlines 24 outlines v3 _ hw) gX1_find_X6_at_ rfl 2 rfl hdX6_at_ rfl rfl (fun _ => rfl) rfl rfl rfl (by decide) ⟨Nat.le_of_ble_eq_true rfl, Nat.le_of_ble_eq_true rfl⟩ ⟨Nat.le_of_ble_eq_true rfl, Nat.le_of_ble_eq_true rfl⟩ (Nat.le_of_ble_eq_true rfl) rfl dX1_find_15 (fun r_15 H locs hw V => ?_)
        refine lv_lload_n hx hb dX1_find_18 rfl (lv_at hl 1 rfl) ?_
        refine W.lcmp hx hb dX1_find_19 ?_
        refine lv_if_ne (tgt := 25) hx hb dX1_find_20 (by decide) (fun c_20 => ?_) (fun c_20 => ?_)
        · have hw := hw.1 c_20
          refine lv_iinc (v := v3 + 1) (lv' := [(3, .int (v3 + 1)), (0, .ref a_this), (1, .long p1)]) hx hb dX1_find_25 hl (k := 2) rfl rfl (by decide) rfl (fun ls hl => ?_)
          refine lv_goto (tgt := 2) hx hb dX1_find_28 (by decide) ?_
          exact ih (v3 + 1) V (lv_sub hl [1, 2, 0] rfl) hw
        · have hw := hw.2 c_20
          refine lv_iload_n hx hb dX1_find_23 rfl (lv_at hl 2 rfl) ?_
          exact ret _ _ _ _ _ rfl dX1_find_24 V hw
  refine lv_iconst (v := 0) hx hb dX1_find_0 (by decide) ?_
  refine lv_istore_n (lv' := [(3, .int 0), (0, .ref a_this), (1, .long p1)]) hx hb dX1_find_1 rfl hl (by decide) rfl (fun ls hl => ?_)
  obtain ⟨n_2, hw⟩ := hw
  exact B2  n_2 0 V (lv_sub hl [1, 2, 0] rfl) hw
theorem hdX1_longestAt : yX1_longestAt.cls = RX1 ∧ yX1_longestAt.cls ≠ "java/lang/invoke/MethodHandle" ∧ yX1_longestAt.cls ≠ "java/lang/invoke/VarHandle" ∧ (parseMethodDescriptor yX1_longestAt.desc).map (fun d => d.parameters.length) = some 3 := by decide +kernel
def wX1_longestAt_22 (p1_n : Nat) (outlines : Nat → Int64) (size : Int32) (p1 : Nat → Int32) (p2 : Int32) (p3 : Int32) (P : Int32 → Prop) : Nat → Int64 → Int32 → Prop
  | 0, _, _ => False
  | n + 1, v5, v7 => (v7 ≤ 0 → P (-1)) ∧ (¬ (v7 ≤ 0) → wX5_beginning v5 v7 (fun r_32 => wX1_find outlines size r_32 (fun r_35 => (r_35 = (-1) → (wX1_longestAt_22 p1_n outlines size p1 p2 p3 P n) v5 (v7 + (-1))) ∧ (¬ (r_35 = (-1)) → P r_35))))
def wX1_longestAt (p1_n : Nat) (outlines : Nat → Int64) (size : Int32) (p1 : Nat → Int32) (p2 : Int32) (p3 : Int32) (P : Int32 → Prop) : Prop := ∀ v4_7 : Int32, v4_7 = (if (p3 - p2) < 4 then (p3 - p2) else 4) → wX5_of p1_n p1 p2 v4_7 (fun r_13 => ∃ n_22, wX1_longestAt_22 p1_n outlines size p1 p2 p3 P n_22 r_13 v4_7)
set_option maxHeartbeats 4000000 in
set_option maxRecDepth 100000 in
theorem kX1_longestAt (l : Launch) (g : kT) (a_this a_this_outlines a_this_words a_p1 : Nat) (p1_n : Nat) (outlines : Nat → Int64) (words : Nat → Int64) (size : Int32) (p1 : Nat → Int32) (p2 : Int32) (p3 : Int32) (P : Int32 → Prop) (hw : wX1_longestAt p1_n outlines size p1 p2 p3 P) : Ki0 l g yX1_longestAt wsX1_longestAt 2 48 0 0 [.ref a_this, .ref a_p1, .int p2, .int p3] (gX1 g a_this a_this_outlines a_this_words outlines words size ++ (gAI g a_p1 p1_n p1)) P (gX1 g a_this a_this_outlines a_this_words outlines words size ++ (gAI g a_p1 p1_n p1)) := by
  refine Ki0.mk (cc := cX1_longestAt) (nL := 9) (ty := .int) (by decide +kernel) rfl (Nat.le_of_ble_eq_true rfl) ?_
  intro p e s m below meth c A Q ls F hl V ret
  have hx := F.x
  have hb := F.b
  have hl : lv_has ls 9 [(0, .ref a_this), (1, .ref a_p1), (2, .int p2), (3, .int p3)] := hl
  have B22 :  ∀ (n : Nat), ∀ {H : Heap} {locs : List Loc} {ls : Array Slot} (v5 : Int64) (v7 : Int32) (V : VW g A s.heap H locs (gX1 g a_this a_this_outlines a_this_words outlines words size ++ (gAI g a_p1 p1_n p1))) (hl : lv_has ls 9 [(0, .ref a_this), (5, .long v5), (7, .int v7)]) (hw : wX1_longestAt_22 p1_n outlines size p1 p2 p3 P n v5 v7), W p l e (kR 2 48 0 0) s m ([.ref a_this, .ref a_p1, .int p2, .int p3] : List Value).toArray below meth c H locs 0 0 Q (F0 m 22 ls []) := by
    intro n
    induction n with
    | zero => intro _ _ _ _ _ V hl hw; exact hw.elim
    | succ n ih =>
      intro H locs ls v5 v7 V hl hw
      refine lv_iload hx hb dX1_longestAt_22 (lv_at hl 2 rfl) ?_
      refine lv_if_le (tgt := 55) hx hb dX1_longestAt_24 (by decide) (fun c_24 => ?_) (fun c_24 => ?_)
      · have hw := hw.1 c_24
        refine lv_iconst (v := (-1)) hx hb dX1_longestAt_55 (by decide) ?_
        exact ret _ _ _ _ _ rfl dX1_longestAt_56 V hw
      · have hw := hw.2 c_24
        refine lv_aload_n hx hb dX1_longestAt_27 rfl (lv_at hl 0 rfl) ?_
        refine lv_lload hx hb dX1_longestAt_28 (lv_at hl 1 rfl) ?_
        refine lv_iload hx hb dX1_longestAt_30 (lv_at hl 2 rfl) ?_
        refine kSl0n (rest := [.ref a_this]) F hl V (kX5_beginning l g v5 v7 _ hw) gX1_longestAt_X5_beginning rfl 2 rfl hdX5_beginning ⟨Nat.le_of_ble_eq_true rfl, Nat.le_of_ble_eq_true rfl⟩ ⟨Nat.le_of_ble_eq_true rfl, Nat.le_of_ble_eq_true rfl⟩ (Nat.le_of_ble_eq_true rfl) rfl dX1_longestAt_32 (fun r_32 H locs hw V => ?_)
        refine kVi0 (rest := []) F hl V [0, 1, 2] [3] [1, 2, 3, 0] (gX1 g a_this a_this_outlines a_this_words outlines words size ++ (gAI g a_p1 p1_n p1)) a_this 1 0 rfl rfl (kX1_find l g a_this a_this_outlines a_this_words outlines words size r_32 _ hw) gX1_longestAt_X1_find rfl 1 rfl hdX1_find rfl rfl (fun _ => rfl) rfl rfl rfl (by decide) ⟨Nat.le_of_ble_eq_true rfl, Nat.le_of_ble_eq_true rfl⟩ ⟨Nat.le_of_ble_eq_true rfl, Nat.le_of_ble_eq_true rfl⟩ (Nat.le_of_ble_eq_true rfl) rfl dX1_longestAt_35 (fun r_35 H locs hw V => ?_)
        refine lv_istore (lv' := [(8, .int r_35), (0, .ref a_this), (5, .long v5), (7, .int v7)]) hx hb dX1_longestAt_38 hl (by decide) rfl (fun ls hl => ?_)
        refine lv_iload hx hb dX1_longestAt_40 (lv_at hl 0 rfl) ?_
        refine lv_iconst (v := (-1)) hx hb dX1_longestAt_42 (by decide) ?_
        refine lv_icmp_eq (tgt := 49) hx hb dX1_longestAt_43 (by decide) (fun c_43 => ?_) (fun c_43 => ?_)
        · have hw := hw.1 c_43
          refine lv_iinc (v := v7 + (-1)) (lv' := [(7, .int (v7 + (-1))), (8, .int r_35), (0, .ref a_this), (5, .long v5)]) hx hb dX1_longestAt_49 hl (k := 3) rfl rfl (by decide) rfl (fun ls hl => ?_)
          refine lv_goto (tgt := 22) hx hb dX1_longestAt_52 (by decide) ?_
          exact ih v5 (v7 + (-1)) V (lv_sub hl [2, 3, 0] rfl) hw
        · have hw := hw.2 c_43
          refine lv_iload hx hb dX1_longestAt_46 (lv_at hl 0 rfl) ?_
          exact ret _ _ _ _ _ rfl dX1_longestAt_48 V hw
  refine lv_iconst (v := 4) hx hb dX1_longestAt_0 (by decide) ?_
  refine lv_iload_n hx hb dX1_longestAt_1 rfl (lv_at hl 3 rfl) ?_
  refine lv_iload_n hx hb dX1_longestAt_2 rfl (lv_at hl 2 rfl) ?_
  refine lv_isub hx hb dX1_longestAt_3 ?_
  refine va_mmin hx hb (F.ml.trans hl.1.symm) F.ow (F.ts (.methodLink RX1 47 Lib.Math.min.name) (by decide +kernel)) (F.ts (.static Lib.Math.min.name) (by decide +kernel)) (F.ts (.initialized "java/lang/Math") (by decide +kernel)) (F.ts (.code Lib.Math.min.name Lib.Math.min.code 2 (some .int)) (by decide +kernel)) (Nat.le_of_ble_eq_true rfl) (Nat.le_of_ble_eq_true rfl) (Nat.le_of_ble_eq_true rfl) (Nat.le_of_ble_eq_true rfl) dX1_longestAt_4 ?_
  refine lv_topi (fun v4_7 ev4_7 => ?_)
  have hw := hw v4_7 ev4_7
  refine lv_istore (lv' := [(4, .int v4_7), (0, .ref a_this), (1, .ref a_p1), (2, .int p2), (3, .int p3)]) hx hb dX1_longestAt_7 hl (by decide) rfl (fun ls hl => ?_)
  refine lv_aload_n hx hb dX1_longestAt_9 rfl (lv_at hl 2 rfl) ?_
  refine lv_iload_n hx hb dX1_longestAt_10 rfl (lv_at hl 3 rfl) ?_
  refine lv_iload hx hb dX1_longestAt_11 (lv_at hl 0 rfl) ?_
  refine kSl0 (rest := []) F hl V [3] [0, 1, 2] [0, 1, 2, 3] (gX1 g a_this a_this_outlines a_this_words outlines words size ++ (gAI g a_p1 p1_n p1)) (kX5_of l g a_p1 p1_n p1 p2 v4_7 _ hw) gX1_longestAt_X5_of rfl 3 rfl hdX5_of rfl rfl (fun _ => rfl) rfl rfl rfl (by decide) ⟨Nat.le_of_ble_eq_true rfl, Nat.le_of_ble_eq_true rfl⟩ ⟨Nat.le_of_ble_eq_true rfl, Nat.le_of_ble_eq_true rfl⟩ (Nat.le_of_ble_eq_true rfl) rfl dX1_longestAt_13 (fun r_13 H locs hw V => ?_)
  refine lv_lstore (lv' := [(5, .long r_13), (4, .int v4_7), (0, .ref a_this), (1, .ref a_p1), (2, .int p2), (3, .int p3)]) hx hb dX1_longestAt_16 hl (by decide) rfl (fun ls hl => ?_)
  refine lv_iload hx hb dX1_longestAt_18 (lv_at hl 1 rfl) ?_
  refine lv_istore (lv' := [(7, .int v4_7), (5, .long r_13), (4, .int v4_7), (0, .ref a_this), (1, .ref a_p1), (2, .int p2), (3, .int p3)]) hx hb dX1_longestAt_20 hl (by decide) rfl (fun ls hl => ?_)
  obtain ⟨n_22, hw⟩ := hw
  exact B22  n_22 r_13 v4_7 V (lv_sub hl [3, 1, 0] rfl) hw
theorem hdX10_isReadAs : yX10_isReadAs.cls = RX10 ∧ yX10_isReadAs.cls ≠ "java/lang/invoke/MethodHandle" ∧ yX10_isReadAs.cls ≠ "java/lang/invoke/VarHandle" ∧ (parseMethodDescriptor yX10_isReadAs.desc).map (fun d => d.parameters.length) = some 2 := by decide +kernel
theorem fX10_isReadAs_15 : Cond.fieldLink RX10 15 RX10 "strokes" "[I" ∈ wsX10_isReadAs := by decide +kernel
theorem iX10_isReadAs_X10 : ∀ w ∈ u_ws RX10 TX10 3, w ∈ wsX10_isReadAs := by decide +kernel
theorem fX10_isReadAs_18 : Cond.fieldLink RX10 18 RX10 "strokeCount" "I" ∈ wsX10_isReadAs := by decide +kernel
theorem fX10_isReadAs_22 : Cond.fieldLink RX10 22 RX0 "length" "I" ∈ wsX10_isReadAs := by decide +kernel
theorem iX10_isReadAs_X0 : ∀ w ∈ u_ws RX0 TX0 2, w ∈ wsX10_isReadAs := by decide +kernel
def wX10_isReadAs_97 (strokes : Nat → Int32) (strokeCount : Int32) (p1_codes : Nat → Int32) (p1_length : Int32) (p2_outlines : Nat → Int64) (p2_words : Nat → Int64) (p2_size : Int32) (P : Int32 → Prop) (v3 : Int32) : Prop := (¬ v3 = p1_length → P 0) ∧ (v3 = p1_length → P 1)
def wX10_isReadAs_8 (strokes : Nat → Int32) (strokeCount : Int32) (p1_codes : Nat → Int32) (p1_length : Int32) (p2_outlines : Nat → Int64) (p2_words : Nat → Int64) (p2_size : Int32) (P : Int32 → Prop) : Nat → Int32 → Int32 → Int32 → Prop
  | 0, _, _, _ => False
  | n + 1, v3, v4, v5 => ((nI 240) ≤ v5 → wX10_isReadAs_97 strokes strokeCount p1_codes p1_length p2_outlines p2_words p2_size P v3) ∧ (¬ ((nI 240) ≤ v5) → (strokeCount ≤ v4 → wX10_isReadAs_97 strokes strokeCount p1_codes p1_length p2_outlines p2_words p2_size P v3) ∧ (¬ (strokeCount ≤ v4) → wX1_longestAt 240 p2_outlines p2_size strokes v4 strokeCount (fun r_38 => (r_38 = (-1) → P 0) ∧ (¬ (r_38 = (-1)) → wX1_wordOf p2_words r_38 (fun r_54 => wX0_hasAt p1_codes p1_length v3 r_54 (fun r_57 => (¬ r_57 = 0 → wX1_wordOf p2_words r_38 (fun r_69 => wX9_length r_69 (fun r_72 => ∀ v3_76 : Int32, v3_76 = (v3 + r_72) → wX1_outlineOf p2_outlines r_38 (fun r_82 => wX5_length r_82 (fun r_85 => ∀ v4_89 : Int32, v4_89 = (v4 + r_85) → (wX10_isReadAs_8 strokes strokeCount p1_codes p1_length p2_outlines p2_words p2_size P n) v3_76 v4_89 (v5 + 1)))))) ∧ (r_57 = 0 → P 0)))))))
def wX10_isReadAs (strokes : Nat → Int32) (strokeCount : Int32) (p1_codes : Nat → Int32) (p1_length : Int32) (p2_outlines : Nat → Int64) (p2_words : Nat → Int64) (p2_size : Int32) (P : Int32 → Prop) : Prop := ∃ n_8, wX10_isReadAs_8 strokes strokeCount p1_codes p1_length p2_outlines p2_words p2_size P n_8 0 0 0
set_option maxHeartbeats 4000000 in
set_option maxRecDepth 100000 in
theorem kX10_isReadAs (l : Launch) (g : kT) (a_this a_this_fewest a_this_strokes a_p1 a_p1_codes a_p2 a_p2_outlines a_p2_words : Nat) (fewest : Nat → Int32) (strokes : Nat → Int32) (strokeCount : Int32) (p1_codes : Nat → Int32) (p1_length : Int32) (p2_outlines : Nat → Int64) (p2_words : Nat → Int64) (p2_size : Int32) (P : Int32 → Prop) (hw : wX10_isReadAs strokes strokeCount p1_codes p1_length p2_outlines p2_words p2_size P) : Ki0 l g yX10_isReadAs wsX10_isReadAs 3 76 0 0 [.ref a_this, .ref a_p1, .ref a_p2] (gX10 g a_this a_this_fewest a_this_strokes fewest strokes strokeCount ++ (gX0 g a_p1 a_p1_codes p1_codes p1_length ++ (gX1 g a_p2 a_p2_outlines a_p2_words p2_outlines p2_words p2_size))) P (gX10 g a_this a_this_fewest a_this_strokes fewest strokes strokeCount ++ (gX0 g a_p1 a_p1_codes p1_codes p1_length ++ (gX1 g a_p2 a_p2_outlines a_p2_words p2_outlines p2_words p2_size))) := by
  refine Ki0.mk (cc := cX10_isReadAs) (nL := 7) (ty := .boolean) (by decide +kernel) rfl (Nat.le_of_ble_eq_true rfl) ?_
  intro p e s m below meth c A Q ls F hl V ret
  have hx := F.x
  have hb := F.b
  have hl : lv_has ls 7 [(0, .ref a_this), (1, .ref a_p1), (2, .ref a_p2)] := hl
  have B97 :  ∀ {H : Heap} {locs : List Loc} {ls : Array Slot} (v3 : Int32) (V : VW g A s.heap H locs (gX10 g a_this a_this_fewest a_this_strokes fewest strokes strokeCount ++ (gX0 g a_p1 a_p1_codes p1_codes p1_length ++ (gX1 g a_p2 a_p2_outlines a_p2_words p2_outlines p2_words p2_size)))) (hl : lv_has ls 7 [(1, .ref a_p1), (3, .int v3)]) (hw : wX10_isReadAs_97 strokes strokeCount p1_codes p1_length p2_outlines p2_words p2_size P v3), W p l e (kR 3 76 0 0) s m ([.ref a_this, .ref a_p1, .ref a_p2] : List Value).toArray below meth c H locs 0 0 Q (F0 m 97 ls []) := by
    intro  H locs ls v3 V hl hw
    refine lv_iload_n hx hb dX10_isReadAs_97 rfl (lv_at hl 1 rfl) ?_
    refine lv_aload_n hx hb dX10_isReadAs_98 rfl (lv_at hl 0 rfl) ?_
    refine kget F V 0 1 3 rfl rfl iX10_isReadAs_X0 fX10_isReadAs_22 (by decide) rfl rfl dX10_isReadAs_99 ?_
    refine lv_icmp_ne (tgt := 109) hx hb dX10_isReadAs_102 (by decide) (fun c_102 => ?_) (fun c_102 => ?_)
    · have hw := hw.1 c_102
      refine lv_iconst (v := 0) hx hb dX10_isReadAs_109 (by decide) ?_
      exact ret _ _ _ _ _ rfl dX10_isReadAs_110 V hw
    · have hw := hw.2 c_102
      refine lv_iconst (v := 1) hx hb dX10_isReadAs_105 (by decide) ?_
      refine lv_goto (tgt := 110) hx hb dX10_isReadAs_106 (by decide) ?_
      exact ret _ _ _ _ _ rfl dX10_isReadAs_110 V hw
  have B8 :  ∀ (n : Nat), ∀ {H : Heap} {locs : List Loc} {ls : Array Slot} (v3 : Int32) (v4 : Int32) (v5 : Int32) (V : VW g A s.heap H locs (gX10 g a_this a_this_fewest a_this_strokes fewest strokes strokeCount ++ (gX0 g a_p1 a_p1_codes p1_codes p1_length ++ (gX1 g a_p2 a_p2_outlines a_p2_words p2_outlines p2_words p2_size)))) (hl : lv_has ls 7 [(0, .ref a_this), (1, .ref a_p1), (2, .ref a_p2), (3, .int v3), (4, .int v4), (5, .int v5)]) (hw : wX10_isReadAs_8 strokes strokeCount p1_codes p1_length p2_outlines p2_words p2_size P n v3 v4 v5), W p l e (kR 3 76 0 0) s m ([.ref a_this, .ref a_p1, .ref a_p2] : List Value).toArray below meth c H locs 0 0 Q (F0 m 8 ls []) := by
    intro n
    induction n with
    | zero => intro _ _ _ _ _ _ V hl hw; exact hw.elim
    | succ n ih =>
      intro H locs ls v3 v4 v5 V hl hw
      refine lv_iload hx hb dX10_isReadAs_8 (lv_at hl 5 rfl) ?_
      refine lv_aload_n hx hb dX10_isReadAs_10 rfl (lv_at hl 0 rfl) ?_
      refine kget F V 6 1 0 rfl rfl iX10_isReadAs_X10 fX10_isReadAs_15 (by decide) rfl rfl dX10_isReadAs_11 ?_
      refine kialen F V 2 rfl dX10_isReadAs_14 ?_
      refine lv_icmp_ge (tgt := 97) hx hb dX10_isReadAs_15 (by decide) (fun c_15 => ?_) (fun c_15 => ?_)
      · have hw := hw.1 c_15
        exact B97  v3 V (lv_sub hl [1, 3] rfl) hw
      · have hw := hw.2 c_15
        refine lv_iload hx hb dX10_isReadAs_18 (lv_at hl 4 rfl) ?_
        refine lv_aload_n hx hb dX10_isReadAs_20 rfl (lv_at hl 0 rfl) ?_
        refine kget F V 6 2 0 rfl rfl iX10_isReadAs_X10 fX10_isReadAs_18 (by decide) rfl rfl dX10_isReadAs_21 ?_
        refine lv_icmp_ge (tgt := 97) hx hb dX10_isReadAs_24 (by decide) (fun c_24 => ?_) (fun c_24 => ?_)
        · have hw := hw.1 c_24
          exact B97  v3 V (lv_sub hl [1, 3] rfl) hw
        · have hw := hw.2 c_24
          refine lv_aload_n hx hb dX10_isReadAs_27 rfl (lv_at hl 2 rfl) ?_
          refine lv_aload_n hx hb dX10_isReadAs_28 rfl (lv_at hl 0 rfl) ?_
          refine kget F V 6 1 0 rfl rfl iX10_isReadAs_X10 fX10_isReadAs_15 (by decide) rfl rfl dX10_isReadAs_29 ?_
          refine lv_iload hx hb dX10_isReadAs_32 (lv_at hl 4 rfl) ?_
          refine lv_aload_n hx hb dX10_isReadAs_34 rfl (lv_at hl 0 rfl) ?_
          refine kget F V 6 2 0 rfl rfl iX10_isReadAs_X10 fX10_isReadAs_18 (by decide) rfl rfl dX10_isReadAs_35 ?_
          refine kVi0 (rest := []) F hl V [5, 6, 7, 2] [0, 1, 3, 4] [0, 1, 7, 2, 3, 4, 5, 6] (gX10 g a_this a_this_fewest a_this_strokes fewest strokes strokeCount ++ (gX0 g a_p1 a_p1_codes p1_codes p1_length ++ (gX1 g a_p2 a_p2_outlines a_p2_words p2_outlines p2_words p2_size))) a_p2 1 5 rfl rfl (kX1_longestAt l g a_p2 a_p2_outlines a_p2_words a_this_strokes 240 p2_outlines p2_words p2_size strokes v4 strokeCount _ hw) gX10_isReadAs_X1_longestAt rfl 3 rfl hdX1_longestAt rfl rfl (fun _ => rfl) rfl rfl rfl (by decide) ⟨Nat.le_of_ble_eq_true rfl, Nat.le_of_ble_eq_true rfl⟩ ⟨Nat.le_of_ble_eq_true rfl, Nat.le_of_ble_eq_true rfl⟩ (Nat.le_of_ble_eq_true rfl) rfl dX10_isReadAs_38 (fun r_38 H locs hw V => ?_)
          refine lv_istore (lv' := [(6, .int r_38), (0, .ref a_this), (1, .ref a_p1), (2, .ref a_p2), (3, .int v3), (4, .int v4), (5, .int v5)]) hx hb dX10_isReadAs_41 hl (by decide) rfl (fun ls hl => ?_)
          refine lv_iload hx hb dX10_isReadAs_43 (lv_at hl 0 rfl) ?_
          refine lv_iconst (v := (-1)) hx hb dX10_isReadAs_45 (by decide) ?_
          refine lv_icmp_eq (tgt := 63) hx hb dX10_isReadAs_46 (by decide) (fun c_46 => ?_) (fun c_46 => ?_)
          · have hw := hw.1 c_46
            refine lv_iconst (v := 0) hx hb dX10_isReadAs_63 (by decide) ?_
            exact ret _ _ _ _ _ rfl dX10_isReadAs_64 V hw
          · have hw := hw.2 c_46
            refine lv_aload_n hx hb dX10_isReadAs_49 rfl (lv_at hl 2 rfl) ?_
            refine lv_iload_n hx hb dX10_isReadAs_50 rfl (lv_at hl 4 rfl) ?_
            refine lv_aload_n hx hb dX10_isReadAs_51 rfl (lv_at hl 3 rfl) ?_
            refine lv_iload hx hb dX10_isReadAs_52 (lv_at hl 0 rfl) ?_
            refine kVl0 (rest := [.int v3, .ref a_p1]) F hl V [5, 6, 7] [0, 1, 2, 3, 4] [0, 1, 2, 3, 4, 5, 6, 7] (gX10 g a_this a_this_fewest a_this_strokes fewest strokes strokeCount ++ (gX0 g a_p1 a_p1_codes p1_codes p1_length ++ (gX1 g a_p2 a_p2_outlines a_p2_words p2_outlines p2_words p2_size))) a_p2 1 5 rfl rfl (kX1_wordOf l g a_p2 a_p2_outlines a_p2_words p2_outlines p2_words p2_size r_38 _ hw) gX10_isReadAs_X1_wordOf rfl 1 rfl hdX1_wordOf rfl rfl (fun _ => rfl) rfl rfl rfl (by decide) ⟨Nat.le_of_ble_eq_true rfl, Nat.le_of_ble_eq_true rfl⟩ ⟨Nat.le_of_ble_eq_true rfl, Nat.le_of_ble_eq_true rfl⟩ (Nat.le_of_ble_eq_true rfl) rfl dX10_isReadAs_54 (fun r_54 H locs hw V => ?_)
            refine kVi0 (rest := []) F hl V [3, 4] [0, 1, 2, 5, 6, 7] [0, 1, 2, 6, 7, 3, 4, 5] (gX10 g a_this a_this_fewest a_this_strokes fewest strokes strokeCount ++ (gX0 g a_p1 a_p1_codes p1_codes p1_length ++ (gX1 g a_p2 a_p2_outlines a_p2_words p2_outlines p2_words p2_size))) a_p1 0 3 rfl rfl (kX0_hasAt l g a_p1 a_p1_codes p1_codes p1_length v3 r_54 _ hw) gX10_isReadAs_X0_hasAt rfl 2 rfl hdX0_hasAt rfl rfl (fun _ => rfl) rfl rfl rfl (by decide) ⟨Nat.le_of_ble_eq_true rfl, Nat.le_of_ble_eq_true rfl⟩ ⟨Nat.le_of_ble_eq_true rfl, Nat.le_of_ble_eq_true rfl⟩ (Nat.le_of_ble_eq_true rfl) rfl dX10_isReadAs_57 (fun r_57 H locs hw V => ?_)
            refine lv_if_ne (tgt := 65) hx hb dX10_isReadAs_60 (by decide) (fun c_60 => ?_) (fun c_60 => ?_)
            · have hw := hw.1 c_60
              refine lv_iload_n hx hb dX10_isReadAs_65 rfl (lv_at hl 4 rfl) ?_
              refine lv_aload_n hx hb dX10_isReadAs_66 rfl (lv_at hl 3 rfl) ?_
              refine lv_iload hx hb dX10_isReadAs_67 (lv_at hl 0 rfl) ?_
              refine kVl0 (rest := [.int v3]) F hl V [5, 6, 7] [0, 1, 2, 3, 4] [0, 1, 2, 3, 4, 5, 6, 7] (gX10 g a_this a_this_fewest a_this_strokes fewest strokes strokeCount ++ (gX0 g a_p1 a_p1_codes p1_codes p1_length ++ (gX1 g a_p2 a_p2_outlines a_p2_words p2_outlines p2_words p2_size))) a_p2 1 5 rfl rfl (kX1_wordOf l g a_p2 a_p2_outlines a_p2_words p2_outlines p2_words p2_size r_38 _ hw) gX10_isReadAs_X1_wordOf rfl 1 rfl hdX1_wordOf rfl rfl (fun _ => rfl) rfl rfl rfl (by decide) ⟨Nat.le_of_ble_eq_true rfl, Nat.le_of_ble_eq_true rfl⟩ ⟨Nat.le_of_ble_eq_true rfl, Nat.le_of_ble_eq_true rfl⟩ (Nat.le_of_ble_eq_true rfl) rfl dX10_isReadAs_69 (fun r_69 H locs hw V => ?_)
              refine kSi0n (rest := [.int v3]) F hl V (kX9_length l g r_69 _ hw) gX10_isReadAs_X9_length rfl 1 rfl hdX9_length ⟨Nat.le_of_ble_eq_true rfl, Nat.le_of_ble_eq_true rfl⟩ ⟨Nat.le_of_ble_eq_true rfl, Nat.le_of_ble_eq_true rfl⟩ (Nat.le_of_ble_eq_true rfl) rfl dX10_isReadAs_72 (fun r_72 H locs hw V => ?_)
              refine lv_iadd hx hb dX10_isReadAs_75 ?_
              refine lv_topi (fun v3_76 ev3_76 => ?_)
              have hw := hw v3_76 ev3_76
              refine lv_istore_n (lv' := [(3, .int v3_76), (6, .int r_38), (0, .ref a_this), (1, .ref a_p1), (2, .ref a_p2), (4, .int v4), (5, .int v5)]) hx hb dX10_isReadAs_76 rfl hl (by decide) rfl (fun ls hl => ?_)
              refine lv_iload hx hb dX10_isReadAs_77 (lv_at hl 5 rfl) ?_
              refine lv_aload_n hx hb dX10_isReadAs_79 rfl (lv_at hl 4 rfl) ?_
              refine lv_iload hx hb dX10_isReadAs_80 (lv_at hl 1 rfl) ?_
              refine kVl0 (rest := [.int v4]) F hl V [5, 6, 7] [0, 1, 2, 3, 4] [0, 1, 2, 3, 4, 5, 6, 7] (gX10 g a_this a_this_fewest a_this_strokes fewest strokes strokeCount ++ (gX0 g a_p1 a_p1_codes p1_codes p1_length ++ (gX1 g a_p2 a_p2_outlines a_p2_words p2_outlines p2_words p2_size))) a_p2 1 5 rfl rfl (kX1_outlineOf l g a_p2 a_p2_outlines a_p2_words p2_outlines p2_words p2_size r_38 _ hw) gX10_isReadAs_X1_outlineOf rfl 1 rfl hdX1_outlineOf rfl rfl (fun _ => rfl) rfl rfl rfl (by decide) ⟨Nat.le_of_ble_eq_true rfl, Nat.le_of_ble_eq_true rfl⟩ ⟨Nat.le_of_ble_eq_true rfl, Nat.le_of_ble_eq_true rfl⟩ (Nat.le_of_ble_eq_true rfl) rfl dX10_isReadAs_82 (fun r_82 H locs hw V => ?_)
              refine kSi0n (rest := [.int v4]) F hl V (kX5_length l g r_82 _ hw) gX10_isReadAs_X5_length rfl 1 rfl hdX5_length ⟨Nat.le_of_ble_eq_true rfl, Nat.le_of_ble_eq_true rfl⟩ ⟨Nat.le_of_ble_eq_true rfl, Nat.le_of_ble_eq_true rfl⟩ (Nat.le_of_ble_eq_true rfl) rfl dX10_isReadAs_85 (fun r_85 H locs hw V => ?_)
              refine lv_iadd hx hb dX10_isReadAs_88 ?_
              refine lv_topi (fun v4_89 ev4_89 => ?_)
              have hw := hw v4_89 ev4_89
              refine lv_istore (lv' := [(4, .int v4_89), (3, .int v3_76), (6, .int r_38), (0, .ref a_this), (1, .ref a_p1), (2, .ref a_p2), (5, .int v5)]) hx hb dX10_isReadAs_89 hl (by decide) rfl (fun ls hl => ?_)
              refine lv_iinc (v := v5 + 1) (lv' := [(5, .int (v5 + 1)), (4, .int v4_89), (3, .int v3_76), (6, .int r_38), (0, .ref a_this), (1, .ref a_p1), (2, .ref a_p2)]) hx hb dX10_isReadAs_91 hl (k := 6) rfl rfl (by decide) rfl (fun ls hl => ?_)
              refine lv_goto (tgt := 8) hx hb dX10_isReadAs_94 (by decide) ?_
              exact ih v3_76 v4_89 (v5 + 1) V (lv_sub hl [4, 5, 6, 2, 1, 0] rfl) hw
            · have hw := hw.2 c_60
              refine lv_iconst (v := 0) hx hb dX10_isReadAs_63 (by decide) ?_
              exact ret _ _ _ _ _ rfl dX10_isReadAs_64 V hw
  refine lv_iconst (v := 0) hx hb dX10_isReadAs_0 (by decide) ?_
  refine lv_istore_n (lv' := [(3, .int 0), (0, .ref a_this), (1, .ref a_p1), (2, .ref a_p2)]) hx hb dX10_isReadAs_1 rfl hl (by decide) rfl (fun ls hl => ?_)
  refine lv_iconst (v := 0) hx hb dX10_isReadAs_2 (by decide) ?_
  refine lv_istore (lv' := [(4, .int 0), (3, .int 0), (0, .ref a_this), (1, .ref a_p1), (2, .ref a_p2)]) hx hb dX10_isReadAs_3 hl (by decide) rfl (fun ls hl => ?_)
  refine lv_iconst (v := 0) hx hb dX10_isReadAs_5 (by decide) ?_
  refine lv_istore (lv' := [(5, .int 0), (4, .int 0), (3, .int 0), (0, .ref a_this), (1, .ref a_p1), (2, .ref a_p2)]) hx hb dX10_isReadAs_6 hl (by decide) rfl (fun ls hl => ?_)
  obtain ⟨n_8, hw⟩ := hw
  exact B8  n_8 0 0 0 V (lv_sub hl [3, 4, 5, 2, 1, 0] rfl) hw
