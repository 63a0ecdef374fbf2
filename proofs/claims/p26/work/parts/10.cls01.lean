theorem hdX11_append : yX11_append.cls = RX11 ∧ yX11_append.cls ≠ "java/lang/invoke/MethodHandle" ∧ yX11_append.cls ≠ "java/lang/invoke/VarHandle" ∧ (parseMethodDescriptor yX11_append.desc).map (fun d => d.parameters.length) = some 1 := by decide +kernel
theorem fX11_append_29 : Cond.fieldLink RX11 29 RX11 "buffer" "LChordDesk$Buffer;" ∈ wsX11_append := by decide +kernel
theorem iX11_append_X11 : ∀ w ∈ u_ws RX11 TX11 6, w ∈ wsX11_append := by decide +kernel
theorem fX11_append_181 : Cond.fieldLink RX11 181 RX0 "length" "I" ∈ wsX11_append := by decide +kernel
theorem iX11_append_X0 : ∀ w ∈ u_ws RX0 TX0 2, w ∈ wsX11_append := by decide +kernel
def wX11_append_12 (p1 : Int32) (P : Int32 → (Nat → Int32) → Int32 → Prop) (X : String → (Nat → Int32) → Int32 → Prop) (buffer_codes : Nat → Int32) (buffer_length : Int32) : Prop := X "java/lang/IllegalArgumentException" buffer_codes buffer_length
def wX11_append (p1 : Int32) (P : Int32 → (Nat → Int32) → Int32 → Prop) (X : String → (Nat → Int32) → Int32 → Prop) (buffer_codes : Nat → Int32) (buffer_length : Int32) : Prop := (p1 < 33 → wX11_append_12 p1 P X buffer_codes buffer_length) ∧ (¬ (p1 < 33) → (p1 ≤ 126 → (buffer_length < 60 → wX0_add p1 (fun buffer_codes_49 buffer_length_49 => P buffer_length_49 buffer_codes_49 buffer_length_49) buffer_codes buffer_length) ∧ (¬ (buffer_length < 60) → X "java/lang/IllegalStateException" buffer_codes buffer_length)) ∧ (¬ (p1 ≤ 126) → wX11_append_12 p1 P X buffer_codes buffer_length))
set_option maxHeartbeats 4000000 in
set_option maxRecDepth 100000 in
theorem kX11_append (l : Launch) (g : kT) (a_this : Nat) (a_this_now : Nat) (a_this_trial : Nat) (a_this_history : Nat) (a_this_buffer : Nat) (a_this_reader : Nat) (a_this_writing : Nat) (a_this_buffer_codes : Nat) (buffer_codes : Nat → Int32) (buffer_length : Int32) (p1 : Int32) (P : Int32 → (Nat → Int32) → Int32 → Prop) (hw : wX11_append p1 P (fun _ _ _ => False) buffer_codes buffer_length) : Ki2 l g yX11_append wsX11_append 6 90 0 0 [.ref a_this, .int p1] (gX11 g a_this a_this_now a_this_trial a_this_history a_this_buffer a_this_reader a_this_writing ++ (gX0 g a_this_buffer a_this_buffer_codes buffer_codes buffer_length)) P (fun buffer_codes buffer_length => (gX11 g a_this a_this_now a_this_trial a_this_history a_this_buffer a_this_reader a_this_writing ++ (gX0 g a_this_buffer a_this_buffer_codes buffer_codes buffer_length))) := by
  refine Ki2.mk (cc := cX11_append) (nL := 2) (ty := .int) (by decide +kernel) rfl (Nat.le_of_ble_eq_true rfl) ?_
  intro p e s m below meth c A Q ls F hl V ret
  have hx := F.x
  have hb := F.b
  have hl : lv_has ls 2 [(0, .ref a_this), (1, .int p1)] := hl
  have B12 :  ∀ {H : Heap} {locs : List Loc} {ls : Array Slot} (buffer_codes : Nat → Int32) (buffer_length : Int32) (V : VW g A s.heap H locs (gX11 g a_this a_this_now a_this_trial a_this_history a_this_buffer a_this_reader a_this_writing ++ (gX0 g a_this_buffer a_this_buffer_codes buffer_codes buffer_length))) (hl : lv_has ls 2 []) (hw : wX11_append_12 p1 P (fun _ _ _ => False) buffer_codes buffer_length), W p l e (kR 6 90 0 0) s m ([.ref a_this, .int p1] : List Value).toArray below meth c H locs 0 0 Q (F0 m 12 ls []) := by
    intro  H locs ls buffer_codes buffer_length V hl hw
    exact False.elim hw
  refine lv_iload_n hx hb dX11_append_0 rfl (lv_at hl 1 rfl) ?_
  refine lv_bipush (v := 33) hx hb dX11_append_1 (by decide) ?_
  refine lv_icmp_lt (tgt := 12) hx hb dX11_append_3 (by decide) (fun c_3 => ?_) (fun c_3 => ?_)
  · have hw := hw.1 c_3
    exact B12  buffer_codes buffer_length V (lv_sub hl [] rfl) hw
  · have hw := hw.2 c_3
    refine lv_iload_n hx hb dX11_append_6 rfl (lv_at hl 1 rfl) ?_
    refine lv_bipush (v := 126) hx hb dX11_append_7 (by decide) ?_
    refine lv_icmp_le (tgt := 22) hx hb dX11_append_9 (by decide) (fun c_9 => ?_) (fun c_9 => ?_)
    · have hw := hw.1 c_9
      refine lv_aload_n hx hb dX11_append_22 rfl (lv_at hl 0 rfl) ?_
      refine kget F V 7 3 0 rfl rfl iX11_append_X11 fX11_append_29 (by decide) rfl rfl dX11_append_23 ?_
      refine kget F V 0 1 1 rfl rfl iX11_append_X0 fX11_append_181 (by decide) rfl rfl dX11_append_26 ?_
      refine lv_bipush (v := 60) hx hb dX11_append_29 (by decide) ?_
      refine lv_icmp_lt (tgt := 44) hx hb dX11_append_31 (by decide) (fun c_31 => ?_) (fun c_31 => ?_)
      · have hw := hw.1 c_31
        refine lv_aload_n hx hb dX11_append_44 rfl (lv_at hl 0 rfl) ?_
        refine kget F V 7 3 0 rfl rfl iX11_append_X11 fX11_append_29 (by decide) rfl rfl dX11_append_45 ?_
        refine lv_iload_n hx hb dX11_append_48 rfl (lv_at hl 1 rfl) ?_
        refine kVv2 (rest := []) F hl V [1, 2] [0] [0, 1, 2] (fun buffer_codes_49 buffer_length_49 => (gX11 g a_this a_this_now a_this_trial a_this_history a_this_buffer a_this_reader a_this_writing ++ (gX0 g a_this_buffer a_this_buffer_codes buffer_codes_49 buffer_length_49))) a_this_buffer 0 1 rfl rfl (kX0_add l g a_this_buffer a_this_buffer_codes buffer_codes buffer_length p1 _ hw) gX11_append_X0_add rfl 1 rfl hdX0_add rfl rfl (fun _ _ => rfl) rfl rfl rfl (by decide) ⟨Nat.le_of_ble_eq_true rfl, Nat.le_of_ble_eq_true rfl⟩ ⟨Nat.le_of_ble_eq_true rfl, Nat.le_of_ble_eq_true rfl⟩ (Nat.le_of_ble_eq_true rfl) rfl dX11_append_49 (fun buffer_codes_49 buffer_length_49 H locs hw V => ?_)
        refine lv_aload_n hx hb dX11_append_52 rfl (lv_at hl 0 rfl) ?_
        refine kget F V 7 3 0 rfl rfl iX11_append_X11 fX11_append_29 (by decide) rfl rfl dX11_append_53 ?_
        refine kget F V 0 1 1 rfl rfl iX11_append_X0 fX11_append_181 (by decide) rfl rfl dX11_append_56 ?_
        exact ret _ _ _ _ _ _ _ rfl dX11_append_59 V hw
      · have hw := hw.2 c_31
        exact False.elim hw
    · have hw := hw.2 c_9
      exact B12  buffer_codes buffer_length V (lv_sub hl [] rfl) hw
theorem hdX11_clearBuffer : yX11_clearBuffer.cls = RX11 ∧ yX11_clearBuffer.cls ≠ "java/lang/invoke/MethodHandle" ∧ yX11_clearBuffer.cls ≠ "java/lang/invoke/VarHandle" ∧ (parseMethodDescriptor yX11_clearBuffer.desc).map (fun d => d.parameters.length) = some 0 := by decide +kernel
theorem fX11_clearBuffer_29 : Cond.fieldLink RX11 29 RX11 "buffer" "LChordDesk$Buffer;" ∈ wsX11_clearBuffer := by decide +kernel
theorem iX11_clearBuffer_X11 : ∀ w ∈ u_ws RX11 TX11 6, w ∈ wsX11_clearBuffer := by decide +kernel
theorem fX11_clearBuffer_181 : Cond.fieldLink RX11 181 RX0 "length" "I" ∈ wsX11_clearBuffer := by decide +kernel
theorem iX11_clearBuffer_X0 : ∀ w ∈ u_ws RX0 TX0 2, w ∈ wsX11_clearBuffer := by decide +kernel
def wX11_clearBuffer (P : Int32 → Int32 → Prop) (buffer_length : Int32) : Prop := P buffer_length 0
set_option maxHeartbeats 4000000 in
set_option maxRecDepth 100000 in
theorem kX11_clearBuffer (l : Launch) (g : kT) (a_this : Nat) (a_this_now : Nat) (a_this_trial : Nat) (a_this_history : Nat) (a_this_buffer : Nat) (a_this_reader : Nat) (a_this_writing : Nat) (a_this_buffer_codes : Nat) (buffer_codes : Nat → Int32) (buffer_length : Int32) (P : Int32 → Int32 → Prop) (hw : wX11_clearBuffer P buffer_length) : Ki1 l g yX11_clearBuffer wsX11_clearBuffer 0 0 0 0 [.ref a_this] (gX11 g a_this a_this_now a_this_trial a_this_history a_this_buffer a_this_reader a_this_writing ++ (gX0 g a_this_buffer a_this_buffer_codes buffer_codes buffer_length)) P (fun buffer_length => (gX11 g a_this a_this_now a_this_trial a_this_history a_this_buffer a_this_reader a_this_writing ++ (gX0 g a_this_buffer a_this_buffer_codes buffer_codes buffer_length))) := by
  refine Ki1.mk (cc := cX11_clearBuffer) (nL := 2) (ty := .int) (by decide +kernel) rfl (Nat.le_of_ble_eq_true rfl) ?_
  intro p e s m below meth c A Q ls F hl V ret
  have hx := F.x
  have hb := F.b
  have hl : lv_has ls 2 [(0, .ref a_this)] := hl
  refine lv_aload_n hx hb dX11_clearBuffer_0 rfl (lv_at hl 0 rfl) ?_
  refine kget F V 7 3 0 rfl rfl iX11_clearBuffer_X11 fX11_clearBuffer_29 (by decide) rfl rfl dX11_clearBuffer_1 ?_
  refine kget F V 0 1 1 rfl rfl iX11_clearBuffer_X0 fX11_clearBuffer_181 (by decide) rfl rfl dX11_clearBuffer_4 ?_
  refine lv_istore_n (lv' := [(1, .int buffer_length), (0, .ref a_this)]) hx hb dX11_clearBuffer_7 rfl hl (by decide) rfl (fun ls hl => ?_)
  refine lv_aload_n hx hb dX11_clearBuffer_8 rfl (lv_at hl 1 rfl) ?_
  refine kget F V 7 3 0 rfl rfl iX11_clearBuffer_X11 fX11_clearBuffer_29 (by decide) rfl rfl dX11_clearBuffer_9 ?_
  refine lv_iconst (v := 0) hx hb dX11_clearBuffer_12 (by decide) ?_
  refine kput F V 0 1 1 tyX0_ok nmX0 rfl rfl iX11_clearBuffer_X0 fX11_clearBuffer_181 (by decide) rfl rfl rfl rfl (Nat.le_of_ble_eq_true rfl) dX11_clearBuffer_13 (fun H locs V => ?_)
  have V : VW g A s.heap H locs (gX11 g a_this a_this_now a_this_trial a_this_history a_this_buffer a_this_reader a_this_writing ++ (gX0 g a_this_buffer a_this_buffer_codes buffer_codes 0)) := V
  refine lv_iload_n hx hb dX11_clearBuffer_16 rfl (lv_at hl 0 rfl) ?_
  exact ret _ _ _ _ _ _ rfl dX11_clearBuffer_17 V hw
theorem hdX4_restart : yX4_restart.cls = RX4 ∧ yX4_restart.cls ≠ "java/lang/invoke/MethodHandle" ∧ yX4_restart.cls ≠ "java/lang/invoke/VarHandle" ∧ (parseMethodDescriptor yX4_restart.desc).map (fun d => d.parameters.length) = some 0 := by decide +kernel
theorem fX4_restart_9 : Cond.fieldLink RX4 9 RX4 "outline" "J" ∈ wsX4_restart := by decide +kernel
theorem iX4_restart_X4 : ∀ w ∈ u_ws RX4 TX4 6, w ∈ wsX4_restart := by decide +kernel
theorem fX4_restart_15 : Cond.fieldLink RX4 15 RX4 "strokes" "I" ∈ wsX4_restart := by decide +kernel
theorem fX4_restart_19 : Cond.fieldLink RX4 19 RX4 "keys" "I" ∈ wsX4_restart := by decide +kernel
theorem fX4_restart_22 : Cond.fieldLink RX4 22 RX4 "inWord" "Z" ∈ wsX4_restart := by decide +kernel
theorem fX4_restart_26 : Cond.fieldLink RX4 26 RX4 "word" "J" ∈ wsX4_restart := by decide +kernel
theorem fX4_restart_29 : Cond.fieldLink RX4 29 RX4 "letters" "I" ∈ wsX4_restart := by decide +kernel
def wX4_restart (P : Int64 → Int32 → Int32 → Int32 → Int64 → Int32 → Prop) (outline : Int64) (strokes : Int32) (keys : Int32) (inWord : Int32) (word : Int64) (letters : Int32) : Prop := P 0 0 0 0 0 0
set_option maxHeartbeats 4000000 in
set_option maxRecDepth 100000 in
theorem kX4_restart (l : Launch) (g : kT) (a_this : Nat) (outline : Int64) (strokes : Int32) (keys : Int32) (inWord : Int32) (word : Int64) (letters : Int32) (P : Int64 → Int32 → Int32 → Int32 → Int64 → Int32 → Prop) (hw : wX4_restart P outline strokes keys inWord word letters) : Kv6 l g yX4_restart wsX4_restart 0 0 0 0 [.ref a_this] (gX4 g a_this outline strokes keys inWord word letters) P (fun outline strokes keys inWord word letters => (gX4 g a_this outline strokes keys inWord word letters)) := by
  refine Kv6.mk (cc := cX4_restart) (nL := 1) (by decide +kernel) rfl (Nat.le_of_ble_eq_true rfl) ?_
  intro p e s m below meth c A Q ls F hl V ret _
  have hx := F.x
  have hb := F.b
  have hl : lv_has ls 1 [(0, .ref a_this)] := hl
  refine lv_aload_n hx hb dX4_restart_0 rfl (lv_at hl 0 rfl) ?_
  refine lv_lconst (v := 0) hx hb dX4_restart_1 (by decide) ?_
  refine kput F V 3 0 0 tyX4_ok nmX4 rfl rfl iX4_restart_X4 fX4_restart_9 (by decide) rfl rfl rfl rfl (Nat.le_of_ble_eq_true rfl) dX4_restart_2 (fun H locs V => ?_)
  have V : VW g A s.heap H locs (gX4 g a_this 0 strokes keys inWord word letters) := V
  refine lv_aload_n hx hb dX4_restart_5 rfl (lv_at hl 0 rfl) ?_
  refine lv_iconst (v := 0) hx hb dX4_restart_6 (by decide) ?_
  refine kput F V 3 1 0 tyX4_ok nmX4 rfl rfl iX4_restart_X4 fX4_restart_15 (by decide) rfl rfl rfl rfl (Nat.le_of_ble_eq_true rfl) dX4_restart_7 (fun H locs V => ?_)
  have V : VW g A s.heap H locs (gX4 g a_this 0 0 keys inWord word letters) := V
  refine lv_aload_n hx hb dX4_restart_10 rfl (lv_at hl 0 rfl) ?_
  refine lv_iconst (v := 0) hx hb dX4_restart_11 (by decide) ?_
  refine kput F V 3 2 0 tyX4_ok nmX4 rfl rfl iX4_restart_X4 fX4_restart_19 (by decide) rfl rfl rfl rfl (Nat.le_of_ble_eq_true rfl) dX4_restart_12 (fun H locs V => ?_)
  have V : VW g A s.heap H locs (gX4 g a_this 0 0 0 inWord word letters) := V
  refine lv_aload_n hx hb dX4_restart_15 rfl (lv_at hl 0 rfl) ?_
  refine lv_iconst (v := 0) hx hb dX4_restart_16 (by decide) ?_
  refine kput F V 3 3 0 tyX4_ok nmX4 rfl rfl iX4_restart_X4 fX4_restart_22 (by decide) rfl rfl rfl rfl (Nat.le_of_ble_eq_true rfl) dX4_restart_17 (fun H locs V => ?_)
  have V : VW g A s.heap H locs (gX4 g a_this 0 0 0 0 word letters) := V
  refine lv_aload_n hx hb dX4_restart_20 rfl (lv_at hl 0 rfl) ?_
  refine lv_lconst (v := 0) hx hb dX4_restart_21 (by decide) ?_
  refine kput F V 3 4 0 tyX4_ok nmX4 rfl rfl iX4_restart_X4 fX4_restart_26 (by decide) rfl rfl rfl rfl (Nat.le_of_ble_eq_true rfl) dX4_restart_22 (fun H locs V => ?_)
  have V : VW g A s.heap H locs (gX4 g a_this 0 0 0 0 0 letters) := V
  refine lv_aload_n hx hb dX4_restart_25 rfl (lv_at hl 0 rfl) ?_
  refine lv_iconst (v := 0) hx hb dX4_restart_26 (by decide) ?_
  refine kput F V 3 5 0 tyX4_ok nmX4 rfl rfl iX4_restart_X4 fX4_restart_29 (by decide) rfl rfl rfl rfl (Nat.le_of_ble_eq_true rfl) dX4_restart_27 (fun H locs V => ?_)
  have V : VW g A s.heap H locs (gX4 g a_this 0 0 0 0 0 0) := V
  exact ret _ _ _ _ _ _ _ _ _ _ dX4_restart_30 V hw
theorem hdX4_readsInWord : yX4_readsInWord.cls = RX4 ∧ yX4_readsInWord.cls ≠ "java/lang/invoke/MethodHandle" ∧ yX4_readsInWord.cls ≠ "java/lang/invoke/VarHandle" ∧ (parseMethodDescriptor yX4_readsInWord.desc).map (fun d => d.parameters.length) = some 1 := by decide +kernel
theorem fX4_readsInWord_29 : Cond.fieldLink RX4 29 RX4 "letters" "I" ∈ wsX4_readsInWord := by decide +kernel
theorem iX4_readsInWord_X4 : ∀ w ∈ u_ws RX4 TX4 6, w ∈ wsX4_readsInWord := by decide +kernel
theorem fX4_readsInWord_26 : Cond.fieldLink RX4 26 RX4 "word" "J" ∈ wsX4_readsInWord := by decide +kernel
def wX4_readsInWord_49 (p1 : Int32) (P : Int32 → Int64 → Int32 → Int32 → Int32 → Int64 → Int32 → Prop) (outline : Int64) (strokes : Int32) (keys : Int32) (inWord : Int32) (word : Int64) (letters : Int32) : Prop := (¬ p1 = 59 → P 0 outline strokes keys inWord word letters) ∧ (p1 = 59 → (letters ≤ 0 → P 0 outline strokes keys inWord word letters) ∧ (¬ (letters ≤ 0) → wX4_restart (fun outline_63 strokes_63 keys_63 inWord_63 word_63 letters_63 => P 1 outline_63 strokes_63 keys_63 inWord_63 word_63 letters_63) outline strokes keys inWord word letters))
def wX4_readsInWord (p1 : Int32) (P : Int32 → Int64 → Int32 → Int32 → Int32 → Int64 → Int32 → Prop) (outline : Int64) (strokes : Int32) (keys : Int32) (inWord : Int32) (word : Int64) (letters : Int32) : Prop := (p1 < 97 → wX4_readsInWord_49 p1 P outline strokes keys inWord word letters) ∧ (¬ (p1 < 97) → (122 < p1 → wX4_readsInWord_49 p1 P outline strokes keys inWord word letters) ∧ (¬ (122 < p1) → (8 ≤ letters → wX4_readsInWord_49 p1 P outline strokes keys inWord word letters) ∧ (¬ (8 ≤ letters) → wX9_with word letters p1 (fun r_31 => ∀ letters_44 : Int32, letters_44 = (letters + 1) → P 1 outline strokes keys inWord r_31 letters_44))))
set_option maxHeartbeats 4000000 in
set_option maxRecDepth 100000 in
theorem kX4_readsInWord (l : Launch) (g : kT) (a_this : Nat) (outline : Int64) (strokes : Int32) (keys : Int32) (inWord : Int32) (word : Int64) (letters : Int32) (p1 : Int32) (P : Int32 → Int64 → Int32 → Int32 → Int32 → Int64 → Int32 → Prop) (hw : wX4_readsInWord p1 P outline strokes keys inWord word letters) : Ki6 l g yX4_readsInWord wsX4_readsInWord 1 23 0 0 [.ref a_this, .int p1] (gX4 g a_this outline strokes keys inWord word letters) P (fun outline strokes keys inWord word letters => (gX4 g a_this outline strokes keys inWord word letters)) := by
  refine Ki6.mk (cc := cX4_readsInWord) (nL := 2) (ty := .boolean) (by decide +kernel) rfl (Nat.le_of_ble_eq_true rfl) ?_
  intro p e s m below meth c A Q ls F hl V ret
  have hx := F.x
  have hb := F.b
  have hl : lv_has ls 2 [(0, .ref a_this), (1, .int p1)] := hl
  have B49 :  ∀ {H : Heap} {locs : List Loc} {ls : Array Slot} (outline : Int64) (strokes : Int32) (keys : Int32) (inWord : Int32) (word : Int64) (letters : Int32) (V : VW g A s.heap H locs (gX4 g a_this outline strokes keys inWord word letters)) (hl : lv_has ls 2 [(0, .ref a_this), (1, .int p1)]) (hw : wX4_readsInWord_49 p1 P outline strokes keys inWord word letters), W p l e (kR 1 23 0 0) s m ([.ref a_this, .int p1] : List Value).toArray below meth c H locs 0 0 Q (F0 m 49 ls []) := by
    intro  H locs ls outline strokes keys inWord word letters V hl hw
    refine lv_iload_n hx hb dX4_readsInWord_49 rfl (lv_at hl 1 rfl) ?_
    refine lv_bipush (v := 59) hx hb dX4_readsInWord_50 (by decide) ?_
    refine lv_icmp_ne (tgt := 68) hx hb dX4_readsInWord_52 (by decide) (fun c_52 => ?_) (fun c_52 => ?_)
    · have hw := hw.1 c_52
      refine lv_iconst (v := 0) hx hb dX4_readsInWord_68 (by decide) ?_
      exact ret _ _ _ _ _ _ _ _ _ _ _ rfl dX4_readsInWord_69 V hw
    · have hw := hw.2 c_52
      refine lv_aload_n hx hb dX4_readsInWord_55 rfl (lv_at hl 0 rfl) ?_
      refine kget F V 3 5 0 rfl rfl iX4_readsInWord_X4 fX4_readsInWord_29 (by decide) rfl rfl dX4_readsInWord_56 ?_
      refine lv_if_le (tgt := 68) hx hb dX4_readsInWord_59 (by decide) (fun c_59 => ?_) (fun c_59 => ?_)
      · have hw := hw.1 c_59
        refine lv_iconst (v := 0) hx hb dX4_readsInWord_68 (by decide) ?_
        exact ret _ _ _ _ _ _ _ _ _ _ _ rfl dX4_readsInWord_69 V hw
      · have hw := hw.2 c_59
        refine lv_aload_n hx hb dX4_readsInWord_62 rfl (lv_at hl 0 rfl) ?_
        refine kVv6 (rest := []) F hl V [0] [] [0] (fun outline_63 strokes_63 keys_63 inWord_63 word_63 letters_63 => (gX4 g a_this outline_63 strokes_63 keys_63 inWord_63 word_63 letters_63)) a_this 3 0 rfl rfl (kX4_restart l g a_this outline strokes keys inWord word letters _ hw) gX4_readsInWord_X4_restart rfl 0 rfl hdX4_restart rfl rfl (fun _ _ _ _ _ _ => rfl) rfl rfl rfl (by decide) ⟨Nat.le_of_ble_eq_true rfl, Nat.le_of_ble_eq_true rfl⟩ ⟨Nat.le_of_ble_eq_true rfl, Nat.le_of_ble_eq_true rfl⟩ (Nat.le_of_ble_eq_true rfl) rfl dX4_readsInWord_63 (fun outline_63 strokes_63 keys_63 inWord_63 word_63 letters_63 H locs hw V => ?_)
        refine lv_iconst (v := 1) hx hb dX4_readsInWord_66 (by decide) ?_
        exact ret _ _ _ _ _ _ _ _ _ _ _ rfl dX4_readsInWord_67 V hw
  refine lv_iload_n hx hb dX4_readsInWord_0 rfl (lv_at hl 1 rfl) ?_
  refine lv_bipush (v := 97) hx hb dX4_readsInWord_1 (by decide) ?_
  refine lv_icmp_lt (tgt := 49) hx hb dX4_readsInWord_3 (by decide) (fun c_3 => ?_) (fun c_3 => ?_)
  · have hw := hw.1 c_3
    exact B49  outline strokes keys inWord word letters V hl hw
  · have hw := hw.2 c_3
    refine lv_iload_n hx hb dX4_readsInWord_6 rfl (lv_at hl 1 rfl) ?_
    refine lv_bipush (v := 122) hx hb dX4_readsInWord_7 (by decide) ?_
    refine lv_icmp_gt (tgt := 49) hx hb dX4_readsInWord_9 (by decide) (fun c_9 => ?_) (fun c_9 => ?_)
    · have hw := hw.1 c_9
      exact B49  outline strokes keys inWord word letters V hl hw
    · have hw := hw.2 c_9
      refine lv_aload_n hx hb dX4_readsInWord_12 rfl (lv_at hl 0 rfl) ?_
      refine kget F V 3 5 0 rfl rfl iX4_readsInWord_X4 fX4_readsInWord_29 (by decide) rfl rfl dX4_readsInWord_13 ?_
      refine lv_bipush (v := 8) hx hb dX4_readsInWord_16 (by decide) ?_
      refine lv_icmp_ge (tgt := 49) hx hb dX4_readsInWord_18 (by decide) (fun c_18 => ?_) (fun c_18 => ?_)
      · have hw := hw.1 c_18
        exact B49  outline strokes keys inWord word letters V hl hw
      · have hw := hw.2 c_18
        refine lv_aload_n hx hb dX4_readsInWord_21 rfl (lv_at hl 0 rfl) ?_
        refine lv_aload_n hx hb dX4_readsInWord_22 rfl (lv_at hl 0 rfl) ?_
        refine kget F V 3 4 0 rfl rfl iX4_readsInWord_X4 fX4_readsInWord_26 (by decide) rfl rfl dX4_readsInWord_23 ?_
        refine lv_aload_n hx hb dX4_readsInWord_26 rfl (lv_at hl 0 rfl) ?_
        refine kget F V 3 5 0 rfl rfl iX4_readsInWord_X4 fX4_readsInWord_29 (by decide) rfl rfl dX4_readsInWord_27 ?_
        refine lv_iload_n hx hb dX4_readsInWord_30 rfl (lv_at hl 1 rfl) ?_
        refine kSl0n (rest := [.ref a_this]) F hl V (kX9_with l g word letters p1 _ hw) gX4_readsInWord_X9_with rfl 3 rfl hdX9_with ⟨Nat.le_of_ble_eq_true rfl, Nat.le_of_ble_eq_true rfl⟩ ⟨Nat.le_of_ble_eq_true rfl, Nat.le_of_ble_eq_true rfl⟩ (Nat.le_of_ble_eq_true rfl) rfl dX4_readsInWord_31 (fun r_31 H locs hw V => ?_)
        refine kput F V 3 4 0 tyX4_ok nmX4 rfl rfl iX4_readsInWord_X4 fX4_readsInWord_26 (by decide) rfl rfl rfl rfl (Nat.le_of_ble_eq_true rfl) dX4_readsInWord_34 (fun H locs V => ?_)
        have V : VW g A s.heap H locs (gX4 g a_this outline strokes keys inWord r_31 letters) := V
        refine lv_aload_n hx hb dX4_readsInWord_37 rfl (lv_at hl 0 rfl) ?_
        refine lv_dup hx hb dX4_readsInWord_38 rfl ?_
        refine kget F V 3 5 0 rfl rfl iX4_readsInWord_X4 fX4_readsInWord_29 (by decide) rfl rfl dX4_readsInWord_39 ?_
        refine lv_iconst (v := 1) hx hb dX4_readsInWord_42 (by decide) ?_
        refine lv_iadd hx hb dX4_readsInWord_43 ?_
        refine lv_topi (fun letters_44 eletters_44 => ?_)
        have hw := hw letters_44 eletters_44
        refine kput F V 3 5 0 tyX4_ok nmX4 rfl rfl iX4_readsInWord_X4 fX4_readsInWord_29 (by decide) rfl rfl rfl rfl (Nat.le_of_ble_eq_true rfl) dX4_readsInWord_44 (fun H locs V => ?_)
        have V : VW g A s.heap H locs (gX4 g a_this outline strokes keys inWord r_31 letters_44) := V
        refine lv_iconst (v := 1) hx hb dX4_readsInWord_47 (by decide) ?_
        exact ret _ _ _ _ _ _ _ _ _ _ _ rfl dX4_readsInWord_48 V hw
theorem hdX3_keyOf : yX3_keyOf.cls ≠ "java/lang/invoke/MethodHandle" ∧ yX3_keyOf.cls ≠ "java/lang/invoke/VarHandle" ∧ (parseMethodDescriptor yX3_keyOf.desc).map (fun d => d.parameters.length) = some 1 := by decide +kernel
def wX3_keyOf_2 (p1 : Int32) (P : Int32 → Prop) : Nat → Int32 → Prop
  | 0, _ => False
  | n + 1, v1 => (12 ≤ v1 → P (-1)) ∧ (¬ (12 ≤ v1) → wX3_codeOf v1 (fun r_9 => (¬ r_9 = p1 → (wX3_keyOf_2 p1 P n) (v1 + 1)) ∧ (r_9 = p1 → P v1)))
def wX3_keyOf (p1 : Int32) (P : Int32 → Prop) : Prop := ∃ n_2, wX3_keyOf_2 p1 P n_2 0
set_option maxHeartbeats 4000000 in
set_option maxRecDepth 100000 in
theorem kX3_keyOf (l : Launch) (g : kT) (p1 : Int32) (P : Int32 → Prop) (hw : wX3_keyOf p1 P) : Ki0 l g yX3_keyOf wsX3_keyOf 1 20 0 0 [.int p1] [] P [] := by
  refine Ki0.mk (cc := cX3_keyOf) (nL := 2) (ty := .int) (by decide +kernel) rfl (Nat.le_of_ble_eq_true rfl) ?_
  intro p e s m below meth c A Q ls F hl V ret
  have hx := F.x
  have hb := F.b
  have hl : lv_has ls 2 [(0, .int p1)] := hl
  have B2 :  ∀ (n : Nat), ∀ {H : Heap} {locs : List Loc} {ls : Array Slot} (v1 : Int32) (V : VW g A s.heap H locs []) (hl : lv_has ls 2 [(0, .int p1), (1, .int v1)]) (hw : wX3_keyOf_2 p1 P n v1), W p l e (kR 1 20 0 0) s m ([.int p1] : List Value).toArray below meth c H locs 0 0 Q (F0 m 2 ls []) := by
    intro n
    induction n with
    | zero => intro _ _ _ _ V hl hw; exact hw.elim
    | succ n ih =>
      intro H locs ls v1 V hl hw
      refine lv_iload_n hx hb dX3_keyOf_2 rfl (lv_at hl 1 rfl) ?_
      refine lv_bipush (v := 12) hx hb dX3_keyOf_3 (by decide) ?_
      refine lv_icmp_ge (tgt := 24) hx hb dX3_keyOf_5 (by decide) (fun c_5 => ?_) (fun c_5 => ?_)
      · have hw := hw.1 c_5
        refine lv_iconst (v := (-1)) hx hb dX3_keyOf_24 (by decide) ?_
        exact ret _ _ _ _ _ rfl dX3_keyOf_25 V hw
      · have hw := hw.2 c_5
        refine lv_iload_n hx hb dX3_keyOf_8 rfl (lv_at hl 1 rfl) ?_
        refine kSi0n (rest := []) F hl V (kX3_codeOf l g v1 _ hw) gX3_keyOf_X3_codeOf rfl 1 rfl hdX3_codeOf ⟨Nat.le_of_ble_eq_true rfl, Nat.le_of_ble_eq_true rfl⟩ ⟨Nat.le_of_ble_eq_true rfl, Nat.le_of_ble_eq_true rfl⟩ (Nat.le_of_ble_eq_true rfl) rfl dX3_keyOf_9 (fun r_9 H locs hw V => ?_)
        refine lv_iload_n hx hb dX3_keyOf_12 rfl (lv_at hl 0 rfl) ?_
        refine lv_icmp_ne (tgt := 18) hx hb dX3_keyOf_13 (by decide) (fun c_13 => ?_) (fun c_13 => ?_)
        · have hw := hw.1 c_13
          refine lv_iinc (v := v1 + 1) (lv' := [(1, .int (v1 + 1)), (0, .int p1)]) hx hb dX3_keyOf_18 hl (k := 1) rfl rfl (by decide) rfl (fun ls hl => ?_)
          refine lv_goto (tgt := 2) hx hb dX3_keyOf_21 (by decide) ?_
          exact ih (v1 + 1) V (lv_sub hl [1, 0] rfl) hw
        · have hw := hw.2 c_13
          refine lv_iload_n hx hb dX3_keyOf_16 rfl (lv_at hl 1 rfl) ?_
          exact ret _ _ _ _ _ rfl dX3_keyOf_17 V hw
  refine lv_iconst (v := 0) hx hb dX3_keyOf_0 (by decide) ?_
  refine lv_istore_n (lv' := [(1, .int 0), (0, .int p1)]) hx hb dX3_keyOf_1 rfl hl (by decide) rfl (fun ls hl => ?_)
  obtain ⟨n_2, hw⟩ := hw
  exact B2  n_2 0 V (lv_sub hl [1, 0] rfl) hw
theorem hdX4_readsKey : yX4_readsKey.cls = RX4 ∧ yX4_readsKey.cls ≠ "java/lang/invoke/MethodHandle" ∧ yX4_readsKey.cls ≠ "java/lang/invoke/VarHandle" ∧ (parseMethodDescriptor yX4_readsKey.desc).map (fun d => d.parameters.length) = some 1 := by decide +kernel
theorem fX4_readsKey_19 : Cond.fieldLink RX4 19 RX4 "keys" "I" ∈ wsX4_readsKey := by decide +kernel
theorem iX4_readsKey_X4 : ∀ w ∈ u_ws RX4 TX4 6, w ∈ wsX4_readsKey := by decide +kernel
def wX4_readsKey (p1 : Int32) (P : Int32 → Int32 → Prop) (keys : Int32) : Prop := ((keys >>> (p1 &&& 31)) = 0 → ∀ keys_20 : Int32, keys_20 = (keys ||| (1 <<< (p1 &&& 31))) → P 1 keys_20) ∧ (¬ ((keys >>> (p1 &&& 31)) = 0) → P 0 keys)
set_option maxHeartbeats 4000000 in
set_option maxRecDepth 100000 in
theorem kX4_readsKey (l : Launch) (g : kT) (a_this : Nat) (outline : Int64) (strokes : Int32) (keys : Int32) (inWord : Int32) (word : Int64) (letters : Int32) (p1 : Int32) (P : Int32 → Int32 → Prop) (hw : wX4_readsKey p1 P keys) : Ki1 l g yX4_readsKey wsX4_readsKey 0 0 0 0 [.ref a_this, .int p1] (gX4 g a_this outline strokes keys inWord word letters) P (fun keys => (gX4 g a_this outline strokes keys inWord word letters)) := by
  refine Ki1.mk (cc := cX4_readsKey) (nL := 2) (ty := .boolean) (by decide +kernel) rfl (Nat.le_of_ble_eq_true rfl) ?_
  intro p e s m below meth c A Q ls F hl V ret
  have hx := F.x
  have hb := F.b
  have hl : lv_has ls 2 [(0, .ref a_this), (1, .int p1)] := hl
  refine lv_aload_n hx hb dX4_readsKey_0 rfl (lv_at hl 0 rfl) ?_
  refine kget F V 3 2 0 rfl rfl iX4_readsKey_X4 fX4_readsKey_19 (by decide) rfl rfl dX4_readsKey_1 ?_
  refine lv_iload_n hx hb dX4_readsKey_4 rfl (lv_at hl 1 rfl) ?_
  refine lv_ishr hx hb dX4_readsKey_5 ?_
  refine lv_if_eq (tgt := 11) hx hb dX4_readsKey_6 (by decide) (fun c_6 => ?_) (fun c_6 => ?_)
  · have hw := hw.1 c_6
    refine lv_aload_n hx hb dX4_readsKey_11 rfl (lv_at hl 0 rfl) ?_
    refine lv_dup hx hb dX4_readsKey_12 rfl ?_
    refine kget F V 3 2 0 rfl rfl iX4_readsKey_X4 fX4_readsKey_19 (by decide) rfl rfl dX4_readsKey_13 ?_
    refine lv_iconst (v := 1) hx hb dX4_readsKey_16 (by decide) ?_
    refine lv_iload_n hx hb dX4_readsKey_17 rfl (lv_at hl 1 rfl) ?_
    refine lv_ishl hx hb dX4_readsKey_18 ?_
    refine lv_ior hx hb dX4_readsKey_19 ?_
    refine lv_topi (fun keys_20 ekeys_20 => ?_)
    have hw := hw keys_20 ekeys_20
    refine kput F V 3 2 0 tyX4_ok nmX4 rfl rfl iX4_readsKey_X4 fX4_readsKey_19 (by decide) rfl rfl rfl rfl (Nat.le_of_ble_eq_true rfl) dX4_readsKey_20 (fun H locs V => ?_)
    have V : VW g A s.heap H locs (gX4 g a_this outline strokes keys_20 inWord word letters) := V
    refine lv_iconst (v := 1) hx hb dX4_readsKey_23 (by decide) ?_
    exact ret _ _ _ _ _ _ rfl dX4_readsKey_24 V hw
  · have hw := hw.2 c_6
    refine lv_iconst (v := 0) hx hb dX4_readsKey_9 (by decide) ?_
    exact ret _ _ _ _ _ _ rfl dX4_readsKey_10 V hw
theorem hdX4_endStroke : yX4_endStroke.cls = RX4 ∧ yX4_endStroke.cls ≠ "java/lang/invoke/MethodHandle" ∧ yX4_endStroke.cls ≠ "java/lang/invoke/VarHandle" ∧ (parseMethodDescriptor yX4_endStroke.desc).map (fun d => d.parameters.length) = some 0 := by decide +kernel
theorem fX4_endStroke_9 : Cond.fieldLink RX4 9 RX4 "outline" "J" ∈ wsX4_endStroke := by decide +kernel
theorem iX4_endStroke_X4 : ∀ w ∈ u_ws RX4 TX4 6, w ∈ wsX4_endStroke := by decide +kernel
theorem fX4_endStroke_15 : Cond.fieldLink RX4 15 RX4 "strokes" "I" ∈ wsX4_endStroke := by decide +kernel
theorem fX4_endStroke_19 : Cond.fieldLink RX4 19 RX4 "keys" "I" ∈ wsX4_endStroke := by decide +kernel
def wX4_endStroke (P : Int64 → Int32 → Int32 → Prop) (outline : Int64) (strokes : Int32) (keys : Int32) : Prop := wX5_with outline strokes keys (fun r_13 => ∀ strokes_26 : Int32, strokes_26 = (strokes + 1) → P r_13 strokes_26 0)
set_option maxHeartbeats 4000000 in
set_option maxRecDepth 100000 in
theorem kX4_endStroke (l : Launch) (g : kT) (a_this : Nat) (outline : Int64) (strokes : Int32) (keys : Int32) (inWord : Int32) (word : Int64) (letters : Int32) (P : Int64 → Int32 → Int32 → Prop) (hw : wX4_endStroke P outline strokes keys) : Kv3 l g yX4_endStroke wsX4_endStroke 1 23 0 0 [.ref a_this] (gX4 g a_this outline strokes keys inWord word letters) P (fun outline strokes keys => (gX4 g a_this outline strokes keys inWord word letters)) := by
  refine Kv3.mk (cc := cX4_endStroke) (nL := 1) (by decide +kernel) rfl (Nat.le_of_ble_eq_true rfl) ?_
  intro p e s m below meth c A Q ls F hl V ret _
  have hx := F.x
  have hb := F.b
  have hl : lv_has ls 1 [(0, .ref a_this)] := hl
  refine lv_aload_n hx hb dX4_endStroke_0 rfl (lv_at hl 0 rfl) ?_
  refine lv_aload_n hx hb dX4_endStroke_1 rfl (lv_at hl 0 rfl) ?_
  refine kget F V 3 0 0 rfl rfl iX4_endStroke_X4 fX4_endStroke_9 (by decide) rfl rfl dX4_endStroke_2 ?_
  refine lv_aload_n hx hb dX4_endStroke_5 rfl (lv_at hl 0 rfl) ?_
  refine kget F V 3 1 0 rfl rfl iX4_endStroke_X4 fX4_endStroke_15 (by decide) rfl rfl dX4_endStroke_6 ?_
  refine lv_aload_n hx hb dX4_endStroke_9 rfl (lv_at hl 0 rfl) ?_
  refine kget F V 3 2 0 rfl rfl iX4_endStroke_X4 fX4_endStroke_19 (by decide) rfl rfl dX4_endStroke_10 ?_
  refine kSl0n (rest := [.ref a_this]) F hl V (kX5_with l g outline strokes keys _ hw) gX4_endStroke_X5_with rfl 3 rfl hdX5_with ⟨Nat.le_of_ble_eq_true rfl, Nat.le_of_ble_eq_true rfl⟩ ⟨Nat.le_of_ble_eq_true rfl, Nat.le_of_ble_eq_true rfl⟩ (Nat.le_of_ble_eq_true rfl) rfl dX4_endStroke_13 (fun r_13 H locs hw V => ?_)
  refine kput F V 3 0 0 tyX4_ok nmX4 rfl rfl iX4_endStroke_X4 fX4_endStroke_9 (by decide) rfl rfl rfl rfl (Nat.le_of_ble_eq_true rfl) dX4_endStroke_16 (fun H locs V => ?_)
  have V : VW g A s.heap H locs (gX4 g a_this r_13 strokes keys inWord word letters) := V
  refine lv_aload_n hx hb dX4_endStroke_19 rfl (lv_at hl 0 rfl) ?_
  refine lv_dup hx hb dX4_endStroke_20 rfl ?_
  refine kget F V 3 1 0 rfl rfl iX4_endStroke_X4 fX4_endStroke_15 (by decide) rfl rfl dX4_endStroke_21 ?_
  refine lv_iconst (v := 1) hx hb dX4_endStroke_24 (by decide) ?_
  refine lv_iadd hx hb dX4_endStroke_25 ?_
  refine lv_topi (fun strokes_26 estrokes_26 => ?_)
  have hw := hw strokes_26 estrokes_26
  refine kput F V 3 1 0 tyX4_ok nmX4 rfl rfl iX4_endStroke_X4 fX4_endStroke_15 (by decide) rfl rfl rfl rfl (Nat.le_of_ble_eq_true rfl) dX4_endStroke_26 (fun H locs V => ?_)
  have V : VW g A s.heap H locs (gX4 g a_this r_13 strokes_26 keys inWord word letters) := V
  refine lv_aload_n hx hb dX4_endStroke_29 rfl (lv_at hl 0 rfl) ?_
  refine lv_iconst (v := 0) hx hb dX4_endStroke_30 (by decide) ?_
  refine kput F V 3 2 0 tyX4_ok nmX4 rfl rfl iX4_endStroke_X4 fX4_endStroke_19 (by decide) rfl rfl rfl rfl (Nat.le_of_ble_eq_true rfl) dX4_endStroke_31 (fun H locs V => ?_)
  have V : VW g A s.heap H locs (gX4 g a_this r_13 strokes_26 0 inWord word letters) := V
  exact ret _ _ _ _ _ _ _ dX4_endStroke_34 V hw
theorem hdX4_readsInOutline : yX4_readsInOutline.cls = RX4 ∧ yX4_readsInOutline.cls ≠ "java/lang/invoke/MethodHandle" ∧ yX4_readsInOutline.cls ≠ "java/lang/invoke/VarHandle" ∧ (parseMethodDescriptor yX4_readsInOutline.desc).map (fun d => d.parameters.length) = some 1 := by decide +kernel
theorem fX4_readsInOutline_19 : Cond.fieldLink RX4 19 RX4 "keys" "I" ∈ wsX4_readsInOutline := by decide +kernel
theorem iX4_readsInOutline_X4 : ∀ w ∈ u_ws RX4 TX4 6, w ∈ wsX4_readsInOutline := by decide +kernel
theorem fX4_readsInOutline_15 : Cond.fieldLink RX4 15 RX4 "strokes" "I" ∈ wsX4_readsInOutline := by decide +kernel
theorem fX4_readsInOutline_22 : Cond.fieldLink RX4 22 RX4 "inWord" "Z" ∈ wsX4_readsInOutline := by decide +kernel
def wX4_readsInOutline_47 (p1 : Int32) (P : Int32 → Int64 → Int32 → Int32 → Int32 → Prop) (outline : Int64) (strokes : Int32) (keys : Int32) (inWord : Int32) : Prop := (¬ p1 = 61 → P 0 outline strokes keys inWord) ∧ (p1 = 61 → wX4_endStroke (fun outline_54 strokes_54 keys_54 => P 1 outline_54 strokes_54 keys_54 1) outline strokes keys)
def wX4_readsInOutline (p1 : Int32) (P : Int32 → Int64 → Int32 → Int32 → Int32 → Prop) (outline : Int64) (strokes : Int32) (keys : Int32) (inWord : Int32) : Prop := wX3_keyOf p1 (fun r_1 => (r_1 = (-1) → (¬ keys = 0 → (¬ p1 = 47 → wX4_readsInOutline_47 p1 P outline strokes keys inWord) ∧ (p1 = 47 → (4 ≤ (strokes + 1) → wX4_readsInOutline_47 p1 P outline strokes keys inWord) ∧ (¬ (4 ≤ (strokes + 1)) → wX4_endStroke (fun outline_42 strokes_42 keys_42 => P 1 outline_42 strokes_42 keys_42 inWord) outline strokes keys))) ∧ (keys = 0 → P 0 outline strokes keys inWord)) ∧ (¬ (r_1 = (-1)) → wX4_readsKey r_1 (fun r_12 keys_12 => (r_12 = 0 ∨ r_12 = 1) ∧ P r_12 outline strokes keys_12 inWord) keys))
set_option maxHeartbeats 4000000 in
set_option maxRecDepth 100000 in
theorem kX4_readsInOutline (l : Launch) (g : kT) (a_this : Nat) (outline : Int64) (strokes : Int32) (keys : Int32) (inWord : Int32) (word : Int64) (letters : Int32) (p1 : Int32) (P : Int32 → Int64 → Int32 → Int32 → Int32 → Prop) (hw : wX4_readsInOutline p1 P outline strokes keys inWord) : Ki4 l g yX4_readsInOutline wsX4_readsInOutline 2 43 0 0 [.ref a_this, .int p1] (gX4 g a_this outline strokes keys inWord word letters) P (fun outline strokes keys inWord => (gX4 g a_this outline strokes keys inWord word letters)) := by
  refine Ki4.mk (cc := cX4_readsInOutline) (nL := 3) (ty := .boolean) (by decide +kernel) rfl (Nat.le_of_ble_eq_true rfl) ?_
  intro p e s m below meth c A Q ls F hl V ret
  have hx := F.x
  have hb := F.b
  have hl : lv_has ls 3 [(0, .ref a_this), (1, .int p1)] := hl
  have B47 :  ∀ {H : Heap} {locs : List Loc} {ls : Array Slot} (outline : Int64) (strokes : Int32) (keys : Int32) (inWord : Int32) (V : VW g A s.heap H locs (gX4 g a_this outline strokes keys inWord word letters)) (hl : lv_has ls 3 [(0, .ref a_this), (1, .int p1)]) (hw : wX4_readsInOutline_47 p1 P outline strokes keys inWord), W p l e (kR 2 43 0 0) s m ([.ref a_this, .int p1] : List Value).toArray below meth c H locs 0 0 Q (F0 m 47 ls []) := by
    intro  H locs ls outline strokes keys inWord V hl hw
    refine lv_iload_n hx hb dX4_readsInOutline_47 rfl (lv_at hl 1 rfl) ?_
    refine lv_bipush (v := 61) hx hb dX4_readsInOutline_48 (by decide) ?_
    refine lv_icmp_ne (tgt := 64) hx hb dX4_readsInOutline_50 (by decide) (fun c_50 => ?_) (fun c_50 => ?_)
    · have hw := hw.1 c_50
      refine lv_iconst (v := 0) hx hb dX4_readsInOutline_64 (by decide) ?_
      exact ret _ _ _ _ _ _ _ _ _ rfl dX4_readsInOutline_65 V hw
    · have hw := hw.2 c_50
      refine lv_aload_n hx hb dX4_readsInOutline_53 rfl (lv_at hl 0 rfl) ?_
      refine kVv3 (rest := []) F hl V [0] [] [0] (fun outline_54 strokes_54 keys_54 => (gX4 g a_this outline_54 strokes_54 keys_54 inWord word letters)) a_this 3 0 rfl rfl (kX4_endStroke l g a_this outline strokes keys inWord word letters _ hw) gX4_readsInOutline_X4_endStroke rfl 0 rfl hdX4_endStroke rfl rfl (fun _ _ _ => rfl) rfl rfl rfl (by decide) ⟨Nat.le_of_ble_eq_true rfl, Nat.le_of_ble_eq_true rfl⟩ ⟨Nat.le_of_ble_eq_true rfl, Nat.le_of_ble_eq_true rfl⟩ (Nat.le_of_ble_eq_true rfl) rfl dX4_readsInOutline_54 (fun outline_54 strokes_54 keys_54 H locs hw V => ?_)
      refine lv_aload_n hx hb dX4_readsInOutline_57 rfl (lv_at hl 0 rfl) ?_
      refine lv_iconst (v := 1) hx hb dX4_readsInOutline_58 (by decide) ?_
      refine kput F V 3 3 0 tyX4_ok nmX4 rfl rfl iX4_readsInOutline_X4 fX4_readsInOutline_22 (by decide) rfl rfl rfl rfl (Nat.le_of_ble_eq_true rfl) dX4_readsInOutline_59 (fun H locs V => ?_)
      have V : VW g A s.heap H locs (gX4 g a_this outline_54 strokes_54 keys_54 1 word letters) := V
      refine lv_iconst (v := 1) hx hb dX4_readsInOutline_62 (by decide) ?_
      exact ret _ _ _ _ _ _ _ _ _ rfl dX4_readsInOutline_63 V hw
  refine lv_iload_n hx hb dX4_readsInOutline_0 rfl (lv_at hl 1 rfl) ?_
  refine kSi0n (rest := []) F hl V (kX3_keyOf l g p1 _ hw) gX4_readsInOutline_X3_keyOf rfl 1 rfl hdX3_keyOf ⟨Nat.le_of_ble_eq_true rfl, Nat.le_of_ble_eq_true rfl⟩ ⟨Nat.le_of_ble_eq_true rfl, Nat.le_of_ble_eq_true rfl⟩ (Nat.le_of_ble_eq_true rfl) rfl dX4_readsInOutline_1 (fun r_1 H locs hw V => ?_)
  refine lv_istore_n (lv' := [(2, .int r_1), (0, .ref a_this), (1, .int p1)]) hx hb dX4_readsInOutline_4 rfl hl (by decide) rfl (fun ls hl => ?_)
  refine lv_iload_n hx hb dX4_readsInOutline_5 rfl (lv_at hl 0 rfl) ?_
  refine lv_iconst (v := (-1)) hx hb dX4_readsInOutline_6 (by decide) ?_
  refine lv_icmp_eq (tgt := 16) hx hb dX4_readsInOutline_7 (by decide) (fun c_7 => ?_) (fun c_7 => ?_)
  · have hw := hw.1 c_7
    refine lv_aload_n hx hb dX4_readsInOutline_16 rfl (lv_at hl 1 rfl) ?_
    refine kget F V 3 2 0 rfl rfl iX4_readsInOutline_X4 fX4_readsInOutline_19 (by decide) rfl rfl dX4_readsInOutline_17 ?_
    refine lv_if_ne (tgt := 25) hx hb dX4_readsInOutline_20 (by decide) (fun c_20 => ?_) (fun c_20 => ?_)
    · have hw := hw.1 c_20
      refine lv_iload_n hx hb dX4_readsInOutline_25 rfl (lv_at hl 2 rfl) ?_
      refine lv_bipush (v := 47) hx hb dX4_readsInOutline_26 (by decide) ?_
      refine lv_icmp_ne (tgt := 47) hx hb dX4_readsInOutline_28 (by decide) (fun c_28 => ?_) (fun c_28 => ?_)
      · have hw := hw.1 c_28
        exact B47  outline strokes keys inWord V (lv_sub hl [1, 2] rfl) hw
      · have hw := hw.2 c_28
        refine lv_aload_n hx hb dX4_readsInOutline_31 rfl (lv_at hl 1 rfl) ?_
        refine kget F V 3 1 0 rfl rfl iX4_readsInOutline_X4 fX4_readsInOutline_15 (by decide) rfl rfl dX4_readsInOutline_32 ?_
        refine lv_iconst (v := 1) hx hb dX4_readsInOutline_35 (by decide) ?_
        refine lv_iadd hx hb dX4_readsInOutline_36 ?_
        refine lv_iconst (v := 4) hx hb dX4_readsInOutline_37 (by decide) ?_
        refine lv_icmp_ge (tgt := 47) hx hb dX4_readsInOutline_38 (by decide) (fun c_38 => ?_) (fun c_38 => ?_)
        · have hw := hw.1 c_38
          exact B47  outline strokes keys inWord V (lv_sub hl [1, 2] rfl) hw
        · have hw := hw.2 c_38
          refine lv_aload_n hx hb dX4_readsInOutline_41 rfl (lv_at hl 1 rfl) ?_
          refine kVv3 (rest := []) F hl V [0] [] [0] (fun outline_42 strokes_42 keys_42 => (gX4 g a_this outline_42 strokes_42 keys_42 inWord word letters)) a_this 3 0 rfl rfl (kX4_endStroke l g a_this outline strokes keys inWord word letters _ hw) gX4_readsInOutline_X4_endStroke rfl 0 rfl hdX4_endStroke rfl rfl (fun _ _ _ => rfl) rfl rfl rfl (by decide) ⟨Nat.le_of_ble_eq_true rfl, Nat.le_of_ble_eq_true rfl⟩ ⟨Nat.le_of_ble_eq_true rfl, Nat.le_of_ble_eq_true rfl⟩ (Nat.le_of_ble_eq_true rfl) rfl dX4_readsInOutline_42 (fun outline_42 strokes_42 keys_42 H locs hw V => ?_)
          refine lv_iconst (v := 1) hx hb dX4_readsInOutline_45 (by decide) ?_
          exact ret _ _ _ _ _ _ _ _ _ rfl dX4_readsInOutline_46 V hw
    · have hw := hw.2 c_20
      refine lv_iconst (v := 0) hx hb dX4_readsInOutline_23 (by decide) ?_
      exact ret _ _ _ _ _ _ _ _ _ rfl dX4_readsInOutline_24 V hw
  · have hw := hw.2 c_7
    refine lv_aload_n hx hb dX4_readsInOutline_10 rfl (lv_at hl 1 rfl) ?_
    refine lv_iload_n hx hb dX4_readsInOutline_11 rfl (lv_at hl 0 rfl) ?_
    refine kVi1 (rest := []) F hl V [0] [] [0] (fun keys_12 => (gX4 g a_this outline strokes keys_12 inWord word letters)) a_this 3 0 rfl rfl (kX4_readsKey l g a_this outline strokes keys inWord word letters r_1 _ hw) gX4_readsInOutline_X4_readsKey rfl 1 rfl hdX4_readsKey rfl rfl (fun _ => rfl) rfl rfl rfl (by decide) ⟨Nat.le_of_ble_eq_true rfl, Nat.le_of_ble_eq_true rfl⟩ ⟨Nat.le_of_ble_eq_true rfl, Nat.le_of_ble_eq_true rfl⟩ (Nat.le_of_ble_eq_true rfl) rfl dX4_readsInOutline_12 (fun r_12 keys_12 H locs hw V => ?_)
    exact ret _ _ _ _ _ _ _ _ _ (k01n hw.1) dX4_readsInOutline_15 V hw.2
theorem hdX4_reads : yX4_reads.cls = RX4 ∧ yX4_reads.cls ≠ "java/lang/invoke/MethodHandle" ∧ yX4_reads.cls ≠ "java/lang/invoke/VarHandle" ∧ (parseMethodDescriptor yX4_reads.desc).map (fun d => d.parameters.length) = some 1 := by decide +kernel
theorem fX4_reads_22 : Cond.fieldLink RX4 22 RX4 "inWord" "Z" ∈ wsX4_reads := by decide +kernel
theorem iX4_reads_X4 : ∀ w ∈ u_ws RX4 TX4 6, w ∈ wsX4_reads := by decide +kernel
def wX4_reads (p1 : Int32) (P : Int32 → Int64 → Int32 → Int32 → Int32 → Int64 → Int32 → Prop) (outline : Int64) (strokes : Int32) (keys : Int32) (inWord : Int32) (word : Int64) (letters : Int32) : Prop := (inWord = 0 → wX4_readsInOutline p1 (fun r_17 outline_17 strokes_17 keys_17 inWord_17 => (r_17 = 0 ∨ r_17 = 1) ∧ P r_17 outline_17 strokes_17 keys_17 inWord_17 word letters) outline strokes keys inWord) ∧ (¬ (inWord = 0) → wX4_readsInWord p1 (fun r_9 outline_9 strokes_9 keys_9 inWord_9 word_9 letters_9 => (r_9 = 0 ∨ r_9 = 1) ∧ P r_9 outline_9 strokes_9 keys_9 inWord_9 word_9 letters_9) outline strokes keys inWord word letters)
set_option maxHeartbeats 4000000 in
set_option maxRecDepth 100000 in
theorem kX4_reads (l : Launch) (g : kT) (a_this : Nat) (outline : Int64) (strokes : Int32) (keys : Int32) (inWord : Int32) (word : Int64) (letters : Int32) (p1 : Int32) (P : Int32 → Int64 → Int32 → Int32 → Int32 → Int64 → Int32 → Prop) (hw : wX4_reads p1 P outline strokes keys inWord word letters) : Ki6 l g yX4_reads wsX4_reads 3 65 0 0 [.ref a_this, .int p1] (gX4 g a_this outline strokes keys inWord word letters) P (fun outline strokes keys inWord word letters => (gX4 g a_this outline strokes keys inWord word letters)) := by
  refine Ki6.mk (cc := cX4_reads) (nL := 2) (ty := .boolean) (by decide +kernel) rfl (Nat.le_of_ble_eq_true rfl) ?_
  intro p e s m below meth c A Q ls F hl V ret
  have hx := F.x
  have hb := F.b
  have hl : lv_has ls 2 [(0, .ref a_this), (1, .int p1)] := hl
  refine lv_aload_n hx hb dX4_reads_0 rfl (lv_at hl 0 rfl) ?_
  refine kget F V 3 3 0 rfl rfl iX4_reads_X4 fX4_reads_22 (by decide) rfl rfl dX4_reads_1 ?_
  refine lv_if_eq (tgt := 15) hx hb dX4_reads_4 (by decide) (fun c_4 => ?_) (fun c_4 => ?_)
  · have hw := hw.1 c_4
    refine lv_aload_n hx hb dX4_reads_15 rfl (lv_at hl 0 rfl) ?_
    refine lv_iload_n hx hb dX4_reads_16 rfl (lv_at hl 1 rfl) ?_
    refine kVi4 (rest := []) F hl V [0] [] [0] (fun outline_17 strokes_17 keys_17 inWord_17 => (gX4 g a_this outline_17 strokes_17 keys_17 inWord_17 word letters)) a_this 3 0 rfl rfl (kX4_readsInOutline l g a_this outline strokes keys inWord word letters p1 _ hw) gX4_reads_X4_readsInOutline rfl 1 rfl hdX4_readsInOutline rfl rfl (fun _ _ _ _ => rfl) rfl rfl rfl (by decide) ⟨Nat.le_of_ble_eq_true rfl, Nat.le_of_ble_eq_true rfl⟩ ⟨Nat.le_of_ble_eq_true rfl, Nat.le_of_ble_eq_true rfl⟩ (Nat.le_of_ble_eq_true rfl) rfl dX4_reads_17 (fun r_17 outline_17 strokes_17 keys_17 inWord_17 H locs hw V => ?_)
    exact ret _ _ _ _ _ _ _ _ _ _ _ (k01n hw.1) dX4_reads_20 V hw.2
  · have hw := hw.2 c_4
    refine lv_aload_n hx hb dX4_reads_7 rfl (lv_at hl 0 rfl) ?_
    refine lv_iload_n hx hb dX4_reads_8 rfl (lv_at hl 1 rfl) ?_
    refine kVi6 (rest := []) F hl V [0] [] [0] (fun outline_9 strokes_9 keys_9 inWord_9 word_9 letters_9 => (gX4 g a_this outline_9 strokes_9 keys_9 inWord_9 word_9 letters_9)) a_this 3 0 rfl rfl (kX4_readsInWord l g a_this outline strokes keys inWord word letters p1 _ hw) gX4_reads_X4_readsInWord rfl 1 rfl hdX4_readsInWord rfl rfl (fun _ _ _ _ _ _ => rfl) rfl rfl rfl (by decide) ⟨Nat.le_of_ble_eq_true rfl, Nat.le_of_ble_eq_true rfl⟩ ⟨Nat.le_of_ble_eq_true rfl, Nat.le_of_ble_eq_true rfl⟩ (Nat.le_of_ble_eq_true rfl) rfl dX4_reads_9 (fun r_9 outline_9 strokes_9 keys_9 inWord_9 word_9 letters_9 H locs hw V => ?_)
    refine lv_goto (tgt := 20) hx hb dX4_reads_12 (by decide) ?_
    exact ret _ _ _ _ _ _ _ _ _ _ _ (k01n hw.1) dX4_reads_20 V hw.2
theorem hdX4_firstErrorOf : yX4_firstErrorOf.cls = RX4 ∧ yX4_firstErrorOf.cls ≠ "java/lang/invoke/MethodHandle" ∧ yX4_firstErrorOf.cls ≠ "java/lang/invoke/VarHandle" ∧ (parseMethodDescriptor yX4_firstErrorOf.desc).map (fun d => d.parameters.length) = some 1 := by decide +kernel
theorem fX4_firstErrorOf_35 : Cond.fieldLink RX4 35 RX0 "length" "I" ∈ wsX4_firstErrorOf := by decide +kernel
theorem iX4_firstErrorOf_X0 : ∀ w ∈ u_ws RX0 TX0 2, w ∈ wsX4_firstErrorOf := by decide +kernel
theorem fX4_firstErrorOf_40 : Cond.fieldLink RX4 40 RX0 "codes" "[I" ∈ wsX4_firstErrorOf := by decide +kernel
def wX4_firstErrorOf_6 (p1_codes : Nat → Int32) (p1_length : Int32) (P : Int32 → Int64 → Int32 → Int32 → Int32 → Int64 → Int32 → Prop) : Nat → Int32 → Int64 → Int32 → Int32 → Int32 → Int64 → Int32 → Prop
  | 0, _, _, _, _, _, _, _ => False
  | n + 1, v2, outline, strokes, keys, inWord, word, letters => (p1_length ≤ v2 → P p1_length outline strokes keys inWord word letters) ∧ (¬ (p1_length ≤ v2) → wX6_at 60 p1_codes v2 (fun r_20 => wX4_reads r_20 (fun r_23 outline_23 strokes_23 keys_23 inWord_23 word_23 letters_23 => (¬ r_23 = 0 → (wX4_firstErrorOf_6 p1_codes p1_length P n) (v2 + 1) outline_23 strokes_23 keys_23 inWord_23 word_23 letters_23) ∧ (r_23 = 0 → P v2 outline_23 strokes_23 keys_23 inWord_23 word_23 letters_23)) outline strokes keys inWord word letters))
def wX4_firstErrorOf (p1_codes : Nat → Int32) (p1_length : Int32) (P : Int32 → Int64 → Int32 → Int32 → Int32 → Int64 → Int32 → Prop) (outline : Int64) (strokes : Int32) (keys : Int32) (inWord : Int32) (word : Int64) (letters : Int32) : Prop := wX4_restart (fun outline_1 strokes_1 keys_1 inWord_1 word_1 letters_1 => ∃ n_6, wX4_firstErrorOf_6 p1_codes p1_length P n_6 0 outline_1 strokes_1 keys_1 inWord_1 word_1 letters_1) outline strokes keys inWord word letters
set_option maxHeartbeats 4000000 in
set_option maxRecDepth 100000 in
theorem kX4_firstErrorOf (l : Launch) (g : kT) (a_this : Nat) (a_p1 : Nat) (a_p1_codes : Nat) (outline : Int64) (strokes : Int32) (keys : Int32) (inWord : Int32) (word : Int64) (letters : Int32) (p1_codes : Nat → Int32) (p1_length : Int32) (P : Int32 → Int64 → Int32 → Int32 → Int32 → Int64 → Int32 → Prop) (hw : wX4_firstErrorOf p1_codes p1_length P outline strokes keys inWord word letters) : Ki6 l g yX4_firstErrorOf wsX4_firstErrorOf 4 86 0 0 [.ref a_this, .ref a_p1] (gX4 g a_this outline strokes keys inWord word letters ++ (gX0 g a_p1 a_p1_codes p1_codes p1_length)) P (fun outline strokes keys inWord word letters => (gX4 g a_this outline strokes keys inWord word letters ++ (gX0 g a_p1 a_p1_codes p1_codes p1_length))) := by
  refine Ki6.mk (cc := cX4_firstErrorOf) (nL := 3) (ty := .int) (by decide +kernel) rfl (Nat.le_of_ble_eq_true rfl) ?_
  intro p e s m below meth c A Q ls F hl V ret
  have hx := F.x
  have hb := F.b
  have hl : lv_has ls 3 [(0, .ref a_this), (1, .ref a_p1)] := hl
  have B6 :  ∀ (n : Nat), ∀ {H : Heap} {locs : List Loc} {ls : Array Slot} (v2 : Int32) (outline : Int64) (strokes : Int32) (keys : Int32) (inWord : Int32) (word : Int64) (letters : Int32) (V : VW g A s.heap H locs (gX4 g a_this outline strokes keys inWord word letters ++ (gX0 g a_p1 a_p1_codes p1_codes p1_length))) (hl : lv_has ls 3 [(0, .ref a_this), (1, .ref a_p1), (2, .int v2)]) (hw : wX4_firstErrorOf_6 p1_codes p1_length P n v2 outline strokes keys inWord word letters), W p l e (kR 4 86 0 0) s m ([.ref a_this, .ref a_p1] : List Value).toArray below meth c H locs 0 0 Q (F0 m 6 ls []) := by
    intro n
    induction n with
    | zero => intro _ _ _ _ _ _ _ _ _ _ V hl hw; exact hw.elim
    | succ n ih =>
      intro H locs ls v2 outline strokes keys inWord word letters V hl hw
      refine lv_iload_n hx hb dX4_firstErrorOf_6 rfl (lv_at hl 2 rfl) ?_
      refine lv_aload_n hx hb dX4_firstErrorOf_7 rfl (lv_at hl 1 rfl) ?_
      refine kget F V 0 1 1 rfl rfl iX4_firstErrorOf_X0 fX4_firstErrorOf_35 (by decide) rfl rfl dX4_firstErrorOf_8 ?_
      refine lv_icmp_ge (tgt := 37) hx hb dX4_firstErrorOf_11 (by decide) (fun c_11 => ?_) (fun c_11 => ?_)
      · have hw := hw.1 c_11
        refine lv_aload_n hx hb dX4_firstErrorOf_37 rfl (lv_at hl 1 rfl) ?_
        refine kget F V 0 1 1 rfl rfl iX4_firstErrorOf_X0 fX4_firstErrorOf_35 (by decide) rfl rfl dX4_firstErrorOf_38 ?_
        exact ret _ _ _ _ _ _ _ _ _ _ _ rfl dX4_firstErrorOf_41 V hw
      · have hw := hw.2 c_11
        refine lv_aload_n hx hb dX4_firstErrorOf_14 rfl (lv_at hl 0 rfl) ?_
        refine lv_aload_n hx hb dX4_firstErrorOf_15 rfl (lv_at hl 1 rfl) ?_
        refine kget F V 0 0 1 rfl rfl iX4_firstErrorOf_X0 fX4_firstErrorOf_40 (by decide) rfl rfl dX4_firstErrorOf_16 ?_
        refine lv_iload_n hx hb dX4_firstErrorOf_19 rfl (lv_at hl 2 rfl) ?_
        refine kSi0 (rest := [.ref a_this]) F hl V [2] [0, 1] [0, 1, 2] (gX4 g a_this outline strokes keys inWord word letters ++ (gX0 g a_p1 a_p1_codes p1_codes p1_length)) (kX6_at l g a_p1_codes 60 p1_codes v2 _ hw) gX4_firstErrorOf_X6_at rfl 2 rfl hdX6_at rfl rfl (fun _ => rfl) rfl rfl rfl (by decide) ⟨Nat.le_of_ble_eq_true rfl, Nat.le_of_ble_eq_true rfl⟩ ⟨Nat.le_of_ble_eq_true rfl, Nat.le_of_ble_eq_true rfl⟩ (Nat.le_of_ble_eq_true rfl) rfl dX4_firstErrorOf_20 (fun r_20 H locs hw V => ?_)
        refine kVi6 (rest := []) F hl V [0] [1, 2] [2, 0, 1] (fun outline_23 strokes_23 keys_23 inWord_23 word_23 letters_23 => (gX4 g a_this outline_23 strokes_23 keys_23 inWord_23 word_23 letters_23 ++ (gX0 g a_p1 a_p1_codes p1_codes p1_length))) a_this 3 0 rfl rfl (kX4_reads l g a_this outline strokes keys inWord word letters r_20 _ hw) gX4_firstErrorOf_X4_reads rfl 1 rfl hdX4_reads rfl rfl (fun _ _ _ _ _ _ => rfl) rfl rfl rfl (by decide) ⟨Nat.le_of_ble_eq_true rfl, Nat.le_of_ble_eq_true rfl⟩ ⟨Nat.le_of_ble_eq_true rfl, Nat.le_of_ble_eq_true rfl⟩ (Nat.le_of_ble_eq_true rfl) rfl dX4_firstErrorOf_23 (fun r_23 outline_23 strokes_23 keys_23 inWord_23 word_23 letters_23 H locs hw V => ?_)
        refine lv_if_ne (tgt := 31) hx hb dX4_firstErrorOf_26 (by decide) (fun c_26 => ?_) (fun c_26 => ?_)
        · have hw := hw.1 c_26
          refine lv_iinc (v := v2 + 1) (lv' := [(2, .int (v2 + 1)), (0, .ref a_this), (1, .ref a_p1)]) hx hb dX4_firstErrorOf_31 hl (k := 2) rfl rfl (by decide) rfl (fun ls hl => ?_)
          refine lv_goto (tgt := 6) hx hb dX4_firstErrorOf_34 (by decide) ?_
          exact ih (v2 + 1) outline_23 strokes_23 keys_23 inWord_23 word_23 letters_23 V (lv_sub hl [1, 2, 0] rfl) hw
        · have hw := hw.2 c_26
          refine lv_iload_n hx hb dX4_firstErrorOf_29 rfl (lv_at hl 2 rfl) ?_
          exact ret _ _ _ _ _ _ _ _ _ _ _ rfl dX4_firstErrorOf_30 V hw
  refine lv_aload_n hx hb dX4_firstErrorOf_0 rfl (lv_at hl 0 rfl) ?_
  refine kVv6 (rest := []) F hl V [0] [1, 2] [2, 0, 1] (fun outline_1 strokes_1 keys_1 inWord_1 word_1 letters_1 => (gX4 g a_this outline_1 strokes_1 keys_1 inWord_1 word_1 letters_1 ++ (gX0 g a_p1 a_p1_codes p1_codes p1_length))) a_this 3 0 rfl rfl (kX4_restart l g a_this outline strokes keys inWord word letters _ hw) gX4_firstErrorOf_X4_restart rfl 0 rfl hdX4_restart rfl rfl (fun _ _ _ _ _ _ => rfl) rfl rfl rfl (by decide) ⟨Nat.le_of_ble_eq_true rfl, Nat.le_of_ble_eq_true rfl⟩ ⟨Nat.le_of_ble_eq_true rfl, Nat.le_of_ble_eq_true rfl⟩ (Nat.le_of_ble_eq_true rfl) rfl dX4_firstErrorOf_1 (fun outline_1 strokes_1 keys_1 inWord_1 word_1 letters_1 H locs hw V => ?_)
  refine lv_iconst (v := 0) hx hb dX4_firstErrorOf_4 (by decide) ?_
  refine lv_istore_n (lv' := [(2, .int 0), (0, .ref a_this), (1, .ref a_p1)]) hx hb dX4_firstErrorOf_5 rfl hl (by decide) rfl (fun ls hl => ?_)
  obtain ⟨n_6, hw⟩ := hw
  exact B6  n_6 0 outline_1 strokes_1 keys_1 inWord_1 word_1 letters_1 V (lv_sub hl [1, 2, 0] rfl) hw
theorem hdX4_isList : yX4_isList.cls = RX4 ∧ yX4_isList.cls ≠ "java/lang/invoke/MethodHandle" ∧ yX4_isList.cls ≠ "java/lang/invoke/VarHandle" ∧ (parseMethodDescriptor yX4_isList.desc).map (fun d => d.parameters.length) = some 1 := by decide +kernel
theorem fX4_isList_35 : Cond.fieldLink RX4 35 RX0 "length" "I" ∈ wsX4_isList := by decide +kernel
theorem iX4_isList_X0 : ∀ w ∈ u_ws RX0 TX0 2, w ∈ wsX4_isList := by decide +kernel
theorem fX4_isList_29 : Cond.fieldLink RX4 29 RX4 "letters" "I" ∈ wsX4_isList := by decide +kernel
theorem iX4_isList_X4 : ∀ w ∈ u_ws RX4 TX4 6, w ∈ wsX4_isList := by decide +kernel
def wX4_isList (p1_codes : Nat → Int32) (p1_length : Int32) (P : Int32 → Int64 → Int32 → Int32 → Int32 → Int64 → Int32 → Prop) (outline : Int64) (strokes : Int32) (keys : Int32) (inWord : Int32) (word : Int64) (letters : Int32) : Prop := wX4_firstErrorOf p1_codes p1_length (fun r_2 outline_2 strokes_2 keys_2 inWord_2 word_2 letters_2 => (¬ r_2 = p1_length → P 0 outline_2 strokes_2 keys_2 inWord_2 word_2 letters_2) ∧ (r_2 = p1_length → (letters_2 ≤ 0 → P 0 outline_2 strokes_2 keys_2 inWord_2 word_2 letters_2) ∧ (¬ (letters_2 ≤ 0) → P 1 outline_2 strokes_2 keys_2 inWord_2 word_2 letters_2))) outline strokes keys inWord word letters
set_option maxHeartbeats 4000000 in
set_option maxRecDepth 100000 in
theorem kX4_isList (l : Launch) (g : kT) (a_this : Nat) (a_p1 : Nat) (a_p1_codes : Nat) (outline : Int64) (strokes : Int32) (keys : Int32) (inWord : Int32) (word : Int64) (letters : Int32) (p1_codes : Nat → Int32) (p1_length : Int32) (P : Int32 → Int64 → Int32 → Int32 → Int32 → Int64 → Int32 → Prop) (hw : wX4_isList p1_codes p1_length P outline strokes keys inWord word letters) : Ki6 l g yX4_isList wsX4_isList 5 108 0 0 [.ref a_this, .ref a_p1] (gX4 g a_this outline strokes keys inWord word letters ++ (gX0 g a_p1 a_p1_codes p1_codes p1_length)) P (fun outline strokes keys inWord word letters => (gX4 g a_this outline strokes keys inWord word letters ++ (gX0 g a_p1 a_p1_codes p1_codes p1_length))) := by
  refine Ki6.mk (cc := cX4_isList) (nL := 2) (ty := .boolean) (by decide +kernel) rfl (Nat.le_of_ble_eq_true rfl) ?_
  intro p e s m below meth c A Q ls F hl V ret
  have hx := F.x
  have hb := F.b
  have hl : lv_has ls 2 [(0, .ref a_this), (1, .ref a_p1)] := hl
  refine lv_aload_n hx hb dX4_isList_0 rfl (lv_at hl 0 rfl) ?_
  refine lv_aload_n hx hb dX4_isList_1 rfl (lv_at hl 1 rfl) ?_
  refine kVi6 (rest := []) F hl V [0, 1, 2] [] [0, 1, 2] (fun outline_2 strokes_2 keys_2 inWord_2 word_2 letters_2 => (gX4 g a_this outline_2 strokes_2 keys_2 inWord_2 word_2 letters_2 ++ (gX0 g a_p1 a_p1_codes p1_codes p1_length))) a_this 3 0 rfl rfl (kX4_firstErrorOf l g a_this a_p1 a_p1_codes outline strokes keys inWord word letters p1_codes p1_length _ hw) gX4_isList_X4_firstErrorOf rfl 1 rfl hdX4_firstErrorOf rfl rfl (fun _ _ _ _ _ _ => rfl) rfl rfl rfl (by decide) ⟨Nat.le_of_ble_eq_true rfl, Nat.le_of_ble_eq_true rfl⟩ ⟨Nat.le_of_ble_eq_true rfl, Nat.le_of_ble_eq_true rfl⟩ (Nat.le_of_ble_eq_true rfl) rfl dX4_isList_2 (fun r_2 outline_2 strokes_2 keys_2 inWord_2 word_2 letters_2 H locs hw V => ?_)
  refine lv_aload_n hx hb dX4_isList_5 rfl (lv_at hl 1 rfl) ?_
  refine kget F V 0 1 1 rfl rfl iX4_isList_X0 fX4_isList_35 (by decide) rfl rfl dX4_isList_6 ?_
  refine lv_icmp_ne (tgt := 23) hx hb dX4_isList_9 (by decide) (fun c_9 => ?_) (fun c_9 => ?_)
  · have hw := hw.1 c_9
    refine lv_iconst (v := 0) hx hb dX4_isList_23 (by decide) ?_
    exact ret _ _ _ _ _ _ _ _ _ _ _ rfl dX4_isList_24 V hw
  · have hw := hw.2 c_9
    refine lv_aload_n hx hb dX4_isList_12 rfl (lv_at hl 0 rfl) ?_
    refine kget F V 3 5 0 rfl rfl iX4_isList_X4 fX4_isList_29 (by decide) rfl rfl dX4_isList_13 ?_
    refine lv_if_le (tgt := 23) hx hb dX4_isList_16 (by decide) (fun c_16 => ?_) (fun c_16 => ?_)
    · have hw := hw.1 c_16
      refine lv_iconst (v := 0) hx hb dX4_isList_23 (by decide) ?_
      exact ret _ _ _ _ _ _ _ _ _ _ _ rfl dX4_isList_24 V hw
    · have hw := hw.2 c_16
      refine lv_iconst (v := 1) hx hb dX4_isList_19 (by decide) ?_
      refine lv_goto (tgt := 24) hx hb dX4_isList_20 (by decide) ?_
      exact ret _ _ _ _ _ _ _ _ _ _ _ rfl dX4_isList_24 V hw
theorem hdX6_copy_ : yX6_copy_.cls ≠ "java/lang/invoke/MethodHandle" ∧ yX6_copy_.cls ≠ "java/lang/invoke/VarHandle" ∧ (parseMethodDescriptor yX6_copy_.desc).map (fun d => d.parameters.length) = some 2 := by decide +kernel
def wX6_copy_ (p1_n : Nat) (p2_n : Nat) (p1 : Nat → Int64) (P : (Nat → Int64) → Prop) (p2 : Nat → Int64) : Prop := ¬ (if (nI p2_n) < (nI p1_n) then (nI p2_n) else (nI p1_n)) < 0 ∧ (if (nI p2_n) < (nI p1_n) then (nI p2_n) else (nI p1_n)).toNatClampNeg = p2_n ∧ p2_n ≤ p1_n ∧ P p1
set_option maxHeartbeats 4000000 in
set_option maxRecDepth 100000 in
theorem kX6_copy_ (l : Launch) (g : kT) (a_p1 : Nat) (a_p2 : Nat) (p1_n : Nat) (p2_n : Nat) (p1 : Nat → Int64) (p2 : Nat → Int64) (P : (Nat → Int64) → Prop) (hw : wX6_copy_ p1_n p2_n p1 P p2) : Kv1 l g yX6_copy_ wsX6_copy_ 1 40 0 0 [.ref a_p1, .ref a_p2] (gAJ g a_p1 p1_n p1 ++ (gAJ g a_p2 p2_n p2)) P (fun p2 => (gAJ g a_p1 p1_n p1 ++ (gAJ g a_p2 p2_n p2))) := by
  refine Kv1.mk (cc := cX6_copy_) (nL := 2) (by decide +kernel) rfl (Nat.le_of_ble_eq_true rfl) ?_
  intro p e s m below meth c A Q ls F hl V ret _
  have hx := F.x
  have hb := F.b
  have hl : lv_has ls 2 [(0, .ref a_p1), (1, .ref a_p2)] := hl
  refine lv_aload_n hx hb dX6_copy__0 rfl (lv_at hl 0 rfl) ?_
  refine lv_iconst (v := 0) hx hb dX6_copy__1 (by decide) ?_
  refine lv_aload_n hx hb dX6_copy__2 rfl (lv_at hl 1 rfl) ?_
  refine lv_iconst (v := 0) hx hb dX6_copy__3 (by decide) ?_
  refine lv_aload_n hx hb dX6_copy__4 rfl (lv_at hl 0 rfl) ?_
  refine klalen F V 0 rfl dX6_copy__5 ?_
  refine lv_aload_n hx hb dX6_copy__6 rfl (lv_at hl 1 rfl) ?_
  refine klalen F V 1 rfl dX6_copy__7 ?_
  refine va_mmin hx hb (F.ml.trans hl.1.symm) F.ow (F.ts (.methodLink RX6 7 Lib.Math.min.name) (by decide +kernel)) (F.ts (.static Lib.Math.min.name) (by decide +kernel)) (F.ts (.initialized "java/lang/Math") (by decide +kernel)) (F.ts (.code Lib.Math.min.name Lib.Math.min.code 2 (some .int)) (by decide +kernel)) (Nat.le_of_ble_eq_true rfl) (Nat.le_of_ble_eq_true rfl) (Nat.le_of_ble_eq_true rfl) (Nat.le_of_ble_eq_true rfl) dX6_copy__8 ?_
  refine kcpyl F V hl.1 (by decide +kernel) (by decide +kernel) (by decide +kernel) (by decide +kernel) 0 1 rfl rfl hw.1 hw.2.1 hw.2.2.1 (Nat.le_of_ble_eq_true rfl) (Nat.le_of_ble_eq_true rfl) dX6_copy__11 (fun H locs V => ?_)
  have hw := hw.2.2.2
  have V : VW g A s.heap H locs (gAJ g a_p1 p1_n p1 ++ (gAJ g a_p2 p2_n p1)) := V
  exact ret _ _ _ _ _ dX6_copy__14 V hw
theorem hdX1_copyFrom : yX1_copyFrom.cls = RX1 ∧ yX1_copyFrom.cls ≠ "java/lang/invoke/MethodHandle" ∧ yX1_copyFrom.cls ≠ "java/lang/invoke/VarHandle" ∧ (parseMethodDescriptor yX1_copyFrom.desc).map (fun d => d.parameters.length) = some 1 := by decide +kernel
theorem fX1_copyFrom_9 : Cond.fieldLink RX1 9 RX1 "outlines" "[J" ∈ wsX1_copyFrom := by decide +kernel
theorem iX1_copyFrom_X1 : ∀ w ∈ u_ws RX1 TX1 3, w ∈ wsX1_copyFrom := by decide +kernel
theorem fX1_copyFrom_15 : Cond.fieldLink RX1 15 RX1 "words" "[J" ∈ wsX1_copyFrom := by decide +kernel
theorem fX1_copyFrom_18 : Cond.fieldLink RX1 18 RX1 "size" "I" ∈ wsX1_copyFrom := by decide +kernel
def wX1_copyFrom (p1_outlines : Nat → Int64) (p1_words : Nat → Int64) (p1_size : Int32) (P : (Nat → Int64) → (Nat → Int64) → Int32 → Prop) (outlines : Nat → Int64) (words : Nat → Int64) (size : Int32) : Prop := wX6_copy_ 24 24 p1_outlines (fun outlines_8 => wX6_copy_ 24 24 p1_words (fun words_19 => P outlines_8 words_19 p1_size) words) outlines
set_option maxHeartbeats 4000000 in
set_option maxRecDepth 100000 in
theorem kX1_copyFrom (l : Launch) (g : kT) (a_this : Nat) (a_this_outlines : Nat) (a_this_words : Nat) (a_p1 : Nat) (a_p1_outlines : Nat) (a_p1_words : Nat) (outlines : Nat → Int64) (words : Nat → Int64) (size : Int32) (p1_outlines : Nat → Int64) (p1_words : Nat → Int64) (p1_size : Int32) (P : (Nat → Int64) → (Nat → Int64) → Int32 → Prop) (hw : wX1_copyFrom p1_outlines p1_words p1_size P outlines words size) : Kv3 l g yX1_copyFrom wsX1_copyFrom 2 61 0 0 [.ref a_this, .ref a_p1] (gX1 g a_this a_this_outlines a_this_words outlines words size ++ (gX1 g a_p1 a_p1_outlines a_p1_words p1_outlines p1_words p1_size)) P (fun outlines words size => (gX1 g a_this a_this_outlines a_this_words outlines words size ++ (gX1 g a_p1 a_p1_outlines a_p1_words p1_outlines p1_words p1_size))) := by
  refine Kv3.mk (cc := cX1_copyFrom) (nL := 2) (by decide +kernel) rfl (Nat.le_of_ble_eq_true rfl) ?_
  intro p e s m below meth c A Q ls F hl V ret _
  have hx := F.x
  have hb := F.b
  have hl : lv_has ls 2 [(0, .ref a_this), (1, .ref a_p1)] := hl
  refine lv_aload_n hx hb dX1_copyFrom_0 rfl (lv_at hl 1 rfl) ?_
  refine kget F V 1 0 3 rfl rfl iX1_copyFrom_X1 fX1_copyFrom_9 (by decide) rfl rfl dX1_copyFrom_1 ?_
  refine lv_aload_n hx hb dX1_copyFrom_4 rfl (lv_at hl 0 rfl) ?_
  refine kget F V 1 0 0 rfl rfl iX1_copyFrom_X1 fX1_copyFrom_9 (by decide) rfl rfl dX1_copyFrom_5 ?_
  refine kSv1 (rest := []) F hl V [4, 1] [0, 2, 3, 5] [0, 5, 1, 2, 4, 3] (fun outlines_8 => (gX1 g a_this a_this_outlines a_this_words outlines_8 words size ++ (gX1 g a_p1 a_p1_outlines a_p1_words p1_outlines p1_words p1_size))) (kX6_copy_ l g a_p1_outlines a_this_outlines 24 24 p1_outlines outlines _ hw) gX1_copyFrom_X6_copy_ rfl 2 rfl hdX6_copy_ rfl rfl (fun _ => rfl) rfl rfl rfl (by decide) ⟨Nat.le_of_ble_eq_true rfl, Nat.le_of_ble_eq_true rfl⟩ ⟨Nat.le_of_ble_eq_true rfl, Nat.le_of_ble_eq_true rfl⟩ (Nat.le_of_ble_eq_true rfl) rfl dX1_copyFrom_8 (fun outlines_8 H locs hw V => ?_)
  refine lv_aload_n hx hb dX1_copyFrom_11 rfl (lv_at hl 1 rfl) ?_
  refine kget F V 1 1 3 rfl rfl iX1_copyFrom_X1 fX1_copyFrom_15 (by decide) rfl rfl dX1_copyFrom_12 ?_
  refine lv_aload_n hx hb dX1_copyFrom_15 rfl (lv_at hl 0 rfl) ?_
  refine kget F V 1 1 0 rfl rfl iX1_copyFrom_X1 fX1_copyFrom_15 (by decide) rfl rfl dX1_copyFrom_16 ?_
  refine kSv1 (rest := []) F hl V [5, 2] [0, 1, 3, 4] [0, 1, 5, 2, 3, 4] (fun words_19 => (gX1 g a_this a_this_outlines a_this_words outlines_8 words_19 size ++ (gX1 g a_p1 a_p1_outlines a_p1_words p1_outlines p1_words p1_size))) (kX6_copy_ l g a_p1_words a_this_words 24 24 p1_words words _ hw) gX1_copyFrom_X6_copy_ rfl 2 rfl hdX6_copy_ rfl rfl (fun _ => rfl) rfl rfl rfl (by decide) ⟨Nat.le_of_ble_eq_true rfl, Nat.le_of_ble_eq_true rfl⟩ ⟨Nat.le_of_ble_eq_true rfl, Nat.le_of_ble_eq_true rfl⟩ (Nat.le_of_ble_eq_true rfl) rfl dX1_copyFrom_19 (fun words_19 H locs hw V => ?_)
  refine lv_aload_n hx hb dX1_copyFrom_22 rfl (lv_at hl 0 rfl) ?_
  refine lv_aload_n hx hb dX1_copyFrom_23 rfl (lv_at hl 1 rfl) ?_
  refine kget F V 1 2 3 rfl rfl iX1_copyFrom_X1 fX1_copyFrom_18 (by decide) rfl rfl dX1_copyFrom_24 ?_
  refine kput F V 1 2 0 tyX1_ok nmX1 rfl rfl iX1_copyFrom_X1 fX1_copyFrom_18 (by decide) rfl rfl rfl rfl (Nat.le_of_ble_eq_true rfl) dX1_copyFrom_27 (fun H locs V => ?_)
  have V : VW g A s.heap H locs (gX1 g a_this a_this_outlines a_this_words outlines_8 words_19 p1_size ++ (gX1 g a_p1 a_p1_outlines a_p1_words p1_outlines p1_words p1_size)) := V
  exact ret _ _ _ _ _ _ _ dX1_copyFrom_30 V hw
theorem hdX6_copy : yX6_copy.cls ≠ "java/lang/invoke/MethodHandle" ∧ yX6_copy.cls ≠ "java/lang/invoke/VarHandle" ∧ (parseMethodDescriptor yX6_copy.desc).map (fun d => d.parameters.length) = some 2 := by decide +kernel
def wX6_copy (p1_n : Nat) (p2_n : Nat) (p1 : Nat → Int32) (P : (Nat → Int32) → Prop) (p2 : Nat → Int32) : Prop := ¬ (if (nI p2_n) < (nI p1_n) then (nI p2_n) else (nI p1_n)) < 0 ∧ (if (nI p2_n) < (nI p1_n) then (nI p2_n) else (nI p1_n)).toNatClampNeg = p2_n ∧ p2_n ≤ p1_n ∧ P p1
set_option maxHeartbeats 4000000 in
set_option maxRecDepth 100000 in
theorem kX6_copy (l : Launch) (g : kT) (a_p1 : Nat) (a_p2 : Nat) (p1_n : Nat) (p2_n : Nat) (p1 : Nat → Int32) (p2 : Nat → Int32) (P : (Nat → Int32) → Prop) (hw : wX6_copy p1_n p2_n p1 P p2) : Kv1 l g yX6_copy wsX6_copy 1 40 0 0 [.ref a_p1, .ref a_p2] (gAI g a_p1 p1_n p1 ++ (gAI g a_p2 p2_n p2)) P (fun p2 => (gAI g a_p1 p1_n p1 ++ (gAI g a_p2 p2_n p2))) := by
  refine Kv1.mk (cc := cX6_copy) (nL := 2) (by decide +kernel) rfl (Nat.le_of_ble_eq_true rfl) ?_
  intro p e s m below meth c A Q ls F hl V ret _
  have hx := F.x
  have hb := F.b
  have hl : lv_has ls 2 [(0, .ref a_p1), (1, .ref a_p2)] := hl
  refine lv_aload_n hx hb dX6_copy_0 rfl (lv_at hl 0 rfl) ?_
  refine lv_iconst (v := 0) hx hb dX6_copy_1 (by decide) ?_
  refine lv_aload_n hx hb dX6_copy_2 rfl (lv_at hl 1 rfl) ?_
  refine lv_iconst (v := 0) hx hb dX6_copy_3 (by decide) ?_
  refine lv_aload_n hx hb dX6_copy_4 rfl (lv_at hl 0 rfl) ?_
  refine kialen F V 0 rfl dX6_copy_5 ?_
  refine lv_aload_n hx hb dX6_copy_6 rfl (lv_at hl 1 rfl) ?_
  refine kialen F V 1 rfl dX6_copy_7 ?_
  refine va_mmin hx hb (F.ml.trans hl.1.symm) F.ow (F.ts (.methodLink RX6 7 Lib.Math.min.name) (by decide +kernel)) (F.ts (.static Lib.Math.min.name) (by decide +kernel)) (F.ts (.initialized "java/lang/Math") (by decide +kernel)) (F.ts (.code Lib.Math.min.name Lib.Math.min.code 2 (some .int)) (by decide +kernel)) (Nat.le_of_ble_eq_true rfl) (Nat.le_of_ble_eq_true rfl) (Nat.le_of_ble_eq_true rfl) (Nat.le_of_ble_eq_true rfl) dX6_copy_8 ?_
  refine kcpyi F V hl.1 (by decide +kernel) (by decide +kernel) (by decide +kernel) (by decide +kernel) 0 1 rfl rfl hw.1 hw.2.1 hw.2.2.1 (Nat.le_of_ble_eq_true rfl) (Nat.le_of_ble_eq_true rfl) dX6_copy_11 (fun H locs V => ?_)
  have hw := hw.2.2.2
  have V : VW g A s.heap H locs (gAI g a_p1 p1_n p1 ++ (gAI g a_p2 p2_n p1)) := V
  exact ret _ _ _ _ _ dX6_copy_14 V hw
theorem hdX7_copyFrom : yX7_copyFrom.cls = RX7 ∧ yX7_copyFrom.cls ≠ "java/lang/invoke/MethodHandle" ∧ yX7_copyFrom.cls ≠ "java/lang/invoke/VarHandle" ∧ (parseMethodDescriptor yX7_copyFrom.desc).map (fun d => d.parameters.length) = some 1 := by decide +kernel
theorem fX7_copyFrom_11 : Cond.fieldLink RX7 11 RX7 "strokes" "[I" ∈ wsX7_copyFrom := by decide +kernel
theorem iX7_copyFrom_X7 : ∀ w ∈ u_ws RX7 TX7 9, w ∈ wsX7_copyFrom := by decide +kernel
theorem fX7_copyFrom_15 : Cond.fieldLink RX7 15 RX7 "firsts" "[I" ∈ wsX7_copyFrom := by decide +kernel
theorem fX7_copyFrom_18 : Cond.fieldLink RX7 18 RX7 "entries" "[I" ∈ wsX7_copyFrom := by decide +kernel
theorem fX7_copyFrom_21 : Cond.fieldLink RX7 21 RX7 "words" "[J" ∈ wsX7_copyFrom := by decide +kernel
theorem fX7_copyFrom_25 : Cond.fieldLink RX7 25 RX7 "strokeCount" "I" ∈ wsX7_copyFrom := by decide +kernel
theorem fX7_copyFrom_29 : Cond.fieldLink RX7 29 RX7 "itemCount" "I" ∈ wsX7_copyFrom := by decide +kernel
theorem fX7_copyFrom_32 : Cond.fieldLink RX7 32 RX7 "fixedCount" "I" ∈ wsX7_copyFrom := by decide +kernel
theorem fX7_copyFrom_35 : Cond.fieldLink RX7 35 RX7 "firstOpen" "I" ∈ wsX7_copyFrom := by decide +kernel
theorem fX7_copyFrom_38 : Cond.fieldLink RX7 38 RX7 "window" "I" ∈ wsX7_copyFrom := by decide +kernel
def wX7_copyFrom (p1_strokes : Nat → Int32) (p1_firsts : Nat → Int32) (p1_entries : Nat → Int32) (p1_words : Nat → Int64) (p1_strokeCount : Int32) (p1_itemCount : Int32) (p1_fixedCount : Int32) (p1_firstOpen : Int32) (p1_window : Int32) (P : (Nat → Int32) → (Nat → Int32) → (Nat → Int32) → (Nat → Int64) → Int32 → Int32 → Int32 → Int32 → Int32 → Prop) (strokes : Nat → Int32) (firsts : Nat → Int32) (entries : Nat → Int32) (words : Nat → Int64) (strokeCount : Int32) (itemCount : Int32) (fixedCount : Int32) (firstOpen : Int32) (window : Int32) : Prop := wX6_copy 61 61 p1_strokes (fun strokes_8 => wX6_copy 61 61 p1_firsts (fun firsts_19 => wX6_copy 61 61 p1_entries (fun entries_30 => wX6_copy_ 61 61 p1_words (fun words_41 => P strokes_8 firsts_19 entries_30 words_41 p1_strokeCount p1_itemCount p1_fixedCount p1_firstOpen p1_window) words) entries) firsts) strokes
set_option maxHeartbeats 4000000 in
set_option maxRecDepth 100000 in
theorem kX7_copyFrom (l : Launch) (g : kT) (a_this : Nat) (a_this_strokes : Nat) (a_this_firsts : Nat) (a_this_entries : Nat) (a_this_words : Nat) (a_p1 : Nat) (a_p1_strokes : Nat) (a_p1_firsts : Nat) (a_p1_entries : Nat) (a_p1_words : Nat) (strokes : Nat → Int32) (firsts : Nat → Int32) (entries : Nat → Int32) (words : Nat → Int64) (strokeCount : Int32) (itemCount : Int32) (fixedCount : Int32) (firstOpen : Int32) (window : Int32) (p1_strokes : Nat → Int32) (p1_firsts : Nat → Int32) (p1_entries : Nat → Int32) (p1_words : Nat → Int64) (p1_strokeCount : Int32) (p1_itemCount : Int32) (p1_fixedCount : Int32) (p1_firstOpen : Int32) (p1_window : Int32) (P : (Nat → Int32) → (Nat → Int32) → (Nat → Int32) → (Nat → Int64) → Int32 → Int32 → Int32 → Int32 → Int32 → Prop) (hw : wX7_copyFrom p1_strokes p1_firsts p1_entries p1_words p1_strokeCount p1_itemCount p1_fixedCount p1_firstOpen p1_window P strokes firsts entries words strokeCount itemCount fixedCount firstOpen window) : Kv9 l g yX7_copyFrom wsX7_copyFrom 2 61 0 0 [.ref a_this, .ref a_p1] (gX7 g a_this a_this_strokes a_this_firsts a_this_entries a_this_words strokes firsts entries words strokeCount itemCount fixedCount firstOpen window ++ (gX7 g a_p1 a_p1_strokes a_p1_firsts a_p1_entries a_p1_words p1_strokes p1_firsts p1_entries p1_words p1_strokeCount p1_itemCount p1_fixedCount p1_firstOpen p1_window)) P (fun strokes firsts entries words strokeCount itemCount fixedCount firstOpen window => (gX7 g a_this a_this_strokes a_this_firsts a_this_entries a_this_words strokes firsts entries words strokeCount itemCount fixedCount firstOpen window ++ (gX7 g a_p1 a_p1_strokes a_p1_firsts a_p1_entries a_p1_words p1_strokes p1_firsts p1_entries p1_words p1_strokeCount p1_itemCount p1_fixedCount p1_firstOpen p1_window))) := by
  refine Kv9.mk (cc := cX7_copyFrom) (nL := 2) (by decide +kernel) rfl (Nat.le_of_ble_eq_true rfl) ?_
  intro p e s m below meth c A Q ls F hl V ret _
  have hx := F.x
  have hb := F.b
  have hl : lv_has ls 2 [(0, .ref a_this), (1, .ref a_p1)] := hl
  refine lv_aload_n hx hb dX7_copyFrom_0 rfl (lv_at hl 1 rfl) ?_
  refine kget F V 4 0 5 rfl rfl iX7_copyFrom_X7 fX7_copyFrom_11 (by decide) rfl rfl dX7_copyFrom_1 ?_
  refine lv_aload_n hx hb dX7_copyFrom_4 rfl (lv_at hl 0 rfl) ?_
  refine kget F V 4 0 0 rfl rfl iX7_copyFrom_X7 fX7_copyFrom_11 (by decide) rfl rfl dX7_copyFrom_5 ?_
  refine kSv1 (rest := []) F hl V [6, 1] [0, 2, 3, 4, 5, 7, 8, 9] [0, 9, 1, 2, 3, 4, 8, 5, 6, 7] (fun strokes_8 => (gX7 g a_this a_this_strokes a_this_firsts a_this_entries a_this_words strokes_8 firsts entries words strokeCount itemCount fixedCount firstOpen window ++ (gX7 g a_p1 a_p1_strokes a_p1_firsts a_p1_entries a_p1_words p1_strokes p1_firsts p1_entries p1_words p1_strokeCount p1_itemCount p1_fixedCount p1_firstOpen p1_window))) (kX6_copy l g a_p1_strokes a_this_strokes 61 61 p1_strokes strokes _ hw) gX7_copyFrom_X6_copy rfl 2 rfl hdX6_copy rfl rfl (fun _ => rfl) rfl rfl rfl (by decide) ⟨Nat.le_of_ble_eq_true rfl, Nat.le_of_ble_eq_true rfl⟩ ⟨Nat.le_of_ble_eq_true rfl, Nat.le_of_ble_eq_true rfl⟩ (Nat.le_of_ble_eq_true rfl) rfl dX7_copyFrom_8 (fun strokes_8 H locs hw V => ?_)
  refine lv_aload_n hx hb dX7_copyFrom_11 rfl (lv_at hl 1 rfl) ?_
  refine kget F V 4 1 5 rfl rfl iX7_copyFrom_X7 fX7_copyFrom_15 (by decide) rfl rfl dX7_copyFrom_12 ?_
  refine lv_aload_n hx hb dX7_copyFrom_15 rfl (lv_at hl 0 rfl) ?_
  refine kget F V 4 1 0 rfl rfl iX7_copyFrom_X7 fX7_copyFrom_15 (by decide) rfl rfl dX7_copyFrom_16 ?_
  refine kSv1 (rest := []) F hl V [7, 2] [0, 1, 3, 4, 5, 6, 8, 9] [0, 1, 9, 2, 3, 4, 5, 8, 6, 7] (fun firsts_19 => (gX7 g a_this a_this_strokes a_this_firsts a_this_entries a_this_words strokes_8 firsts_19 entries words strokeCount itemCount fixedCount firstOpen window ++ (gX7 g a_p1 a_p1_strokes a_p1_firsts a_p1_entries a_p1_words p1_strokes p1_firsts p1_entries p1_words p1_strokeCount p1_itemCount p1_fixedCount p1_firstOpen p1_window))) (kX6_copy l g a_p1_firsts a_this_firsts 61 61 p1_firsts firsts _ hw) gX7_copyFrom_X6_copy rfl 2 rfl hdX6_copy rfl rfl (fun _ => rfl) rfl rfl rfl (by decide) ⟨Nat.le_of_ble_eq_true rfl, Nat.le_of_ble_eq_true rfl⟩ ⟨Nat.le_of_ble_eq_true rfl, Nat.le_of_ble_eq_true rfl⟩ (Nat.le_of_ble_eq_true rfl) rfl dX7_copyFrom_19 (fun firsts_19 H locs hw V => ?_)
  refine lv_aload_n hx hb dX7_copyFrom_22 rfl (lv_at hl 1 rfl) ?_
  refine kget F V 4 2 5 rfl rfl iX7_copyFrom_X7 fX7_copyFrom_18 (by decide) rfl rfl dX7_copyFrom_23 ?_
  refine lv_aload_n hx hb dX7_copyFrom_26 rfl (lv_at hl 0 rfl) ?_
  refine kget F V 4 2 0 rfl rfl iX7_copyFrom_X7 fX7_copyFrom_18 (by decide) rfl rfl dX7_copyFrom_27 ?_
  refine kSv1 (rest := []) F hl V [8, 3] [0, 1, 2, 4, 5, 6, 7, 9] [0, 1, 2, 9, 3, 4, 5, 6, 8, 7] (fun entries_30 => (gX7 g a_this a_this_strokes a_this_firsts a_this_entries a_this_words strokes_8 firsts_19 entries_30 words strokeCount itemCount fixedCount firstOpen window ++ (gX7 g a_p1 a_p1_strokes a_p1_firsts a_p1_entries a_p1_words p1_strokes p1_firsts p1_entries p1_words p1_strokeCount p1_itemCount p1_fixedCount p1_firstOpen p1_window))) (kX6_copy l g a_p1_entries a_this_entries 61 61 p1_entries entries _ hw) gX7_copyFrom_X6_copy rfl 2 rfl hdX6_copy rfl rfl (fun _ => rfl) rfl rfl rfl (by decide) ⟨Nat.le_of_ble_eq_true rfl, Nat.le_of_ble_eq_true rfl⟩ ⟨Nat.le_of_ble_eq_true rfl, Nat.le_of_ble_eq_true rfl⟩ (Nat.le_of_ble_eq_true rfl) rfl dX7_copyFrom_30 (fun entries_30 H locs hw V => ?_)
  refine lv_aload_n hx hb dX7_copyFrom_33 rfl (lv_at hl 1 rfl) ?_
  refine kget F V 4 3 5 rfl rfl iX7_copyFrom_X7 fX7_copyFrom_21 (by decide) rfl rfl dX7_copyFrom_34 ?_
  refine lv_aload_n hx hb dX7_copyFrom_37 rfl (lv_at hl 0 rfl) ?_
  refine kget F V 4 3 0 rfl rfl iX7_copyFrom_X7 fX7_copyFrom_21 (by decide) rfl rfl dX7_copyFrom_38 ?_
  refine kSv1 (rest := []) F hl V [9, 4] [0, 1, 2, 3, 5, 6, 7, 8] [0, 1, 2, 3, 9, 4, 5, 6, 7, 8] (fun words_41 => (gX7 g a_this a_this_strokes a_this_firsts a_this_entries a_this_words strokes_8 firsts_19 entries_30 words_41 strokeCount itemCount fixedCount firstOpen window ++ (gX7 g a_p1 a_p1_strokes a_p1_firsts a_p1_entries a_p1_words p1_strokes p1_firsts p1_entries p1_words p1_strokeCount p1_itemCount p1_fixedCount p1_firstOpen p1_window))) (kX6_copy_ l g a_p1_words a_this_words 61 61 p1_words words _ hw) gX7_copyFrom_X6_copy_ rfl 2 rfl hdX6_copy_ rfl rfl (fun _ => rfl) rfl rfl rfl (by decide) ⟨Nat.le_of_ble_eq_true rfl, Nat.le_of_ble_eq_true rfl⟩ ⟨Nat.le_of_ble_eq_true rfl, Nat.le_of_ble_eq_true rfl⟩ (Nat.le_of_ble_eq_true rfl) rfl dX7_copyFrom_41 (fun words_41 H locs hw V => ?_)
  refine lv_aload_n hx hb dX7_copyFrom_44 rfl (lv_at hl 0 rfl) ?_
  refine lv_aload_n hx hb dX7_copyFrom_45 rfl (lv_at hl 1 rfl) ?_
  refine kget F V 4 4 5 rfl rfl iX7_copyFrom_X7 fX7_copyFrom_25 (by decide) rfl rfl dX7_copyFrom_46 ?_
  refine kput F V 4 4 0 tyX7_ok nmX7 rfl rfl iX7_copyFrom_X7 fX7_copyFrom_25 (by decide) rfl rfl rfl rfl (Nat.le_of_ble_eq_true rfl) dX7_copyFrom_49 (fun H locs V => ?_)
  have V : VW g A s.heap H locs (gX7 g a_this a_this_strokes a_this_firsts a_this_entries a_this_words strokes_8 firsts_19 entries_30 words_41 p1_strokeCount itemCount fixedCount firstOpen window ++ (gX7 g a_p1 a_p1_strokes a_p1_firsts a_p1_entries a_p1_words p1_strokes p1_firsts p1_entries p1_words p1_strokeCount p1_itemCount p1_fixedCount p1_firstOpen p1_window)) := V
  refine lv_aload_n hx hb dX7_copyFrom_52 rfl (lv_at hl 0 rfl) ?_
  refine lv_aload_n hx hb dX7_copyFrom_53 rfl (lv_at hl 1 rfl) ?_
  refine kget F V 4 5 5 rfl rfl iX7_copyFrom_X7 fX7_copyFrom_29 (by decide) rfl rfl dX7_copyFrom_54 ?_
  refine kput F V 4 5 0 tyX7_ok nmX7 rfl rfl iX7_copyFrom_X7 fX7_copyFrom_29 (by decide) rfl rfl rfl rfl (Nat.le_of_ble_eq_true rfl) dX7_copyFrom_57 (fun H locs V => ?_)
  have V : VW g A s.heap H locs (gX7 g a_this a_this_strokes a_this_firsts a_this_entries a_this_words strokes_8 firsts_19 entries_30 words_41 p1_strokeCount p1_itemCount fixedCount firstOpen window ++ (gX7 g a_p1 a_p1_strokes a_p1_firsts a_p1_entries a_p1_words p1_strokes p1_firsts p1_entries p1_words p1_strokeCount p1_itemCount p1_fixedCount p1_firstOpen p1_window)) := V
  refine lv_aload_n hx hb dX7_copyFrom_60 rfl (lv_at hl 0 rfl) ?_
  refine lv_aload_n hx hb dX7_copyFrom_61 rfl (lv_at hl 1 rfl) ?_
  refine kget F V 4 6 5 rfl rfl iX7_copyFrom_X7 fX7_copyFrom_32 (by decide) rfl rfl dX7_copyFrom_62 ?_
  refine kput F V 4 6 0 tyX7_ok nmX7 rfl rfl iX7_copyFrom_X7 fX7_copyFrom_32 (by decide) rfl rfl rfl rfl (Nat.le_of_ble_eq_true rfl) dX7_copyFrom_65 (fun H locs V => ?_)
  have V : VW g A s.heap H locs (gX7 g a_this a_this_strokes a_this_firsts a_this_entries a_this_words strokes_8 firsts_19 entries_30 words_41 p1_strokeCount p1_itemCount p1_fixedCount firstOpen window ++ (gX7 g a_p1 a_p1_strokes a_p1_firsts a_p1_entries a_p1_words p1_strokes p1_firsts p1_entries p1_words p1_strokeCount p1_itemCount p1_fixedCount p1_firstOpen p1_window)) := V
  refine lv_aload_n hx hb dX7_copyFrom_68 rfl (lv_at hl 0 rfl) ?_
  refine lv_aload_n hx hb dX7_copyFrom_69 rfl (lv_at hl 1 rfl) ?_
  refine kget F V 4 7 5 rfl rfl iX7_copyFrom_X7 fX7_copyFrom_35 (by decide) rfl rfl dX7_copyFrom_70 ?_
  refine kput F V 4 7 0 tyX7_ok nmX7 rfl rfl iX7_copyFrom_X7 fX7_copyFrom_35 (by decide) rfl rfl rfl rfl (Nat.le_of_ble_eq_true rfl) dX7_copyFrom_73 (fun H locs V => ?_)
  have V : VW g A s.heap H locs (gX7 g a_this a_this_strokes a_this_firsts a_this_entries a_this_words strokes_8 firsts_19 entries_30 words_41 p1_strokeCount p1_itemCount p1_fixedCount p1_firstOpen window ++ (gX7 g a_p1 a_p1_strokes a_p1_firsts a_p1_entries a_p1_words p1_strokes p1_firsts p1_entries p1_words p1_strokeCount p1_itemCount p1_fixedCount p1_firstOpen p1_window)) := V
  refine lv_aload_n hx hb dX7_copyFrom_76 rfl (lv_at hl 0 rfl) ?_
  refine lv_aload_n hx hb dX7_copyFrom_77 rfl (lv_at hl 1 rfl) ?_
  refine kget F V 4 8 5 rfl rfl iX7_copyFrom_X7 fX7_copyFrom_38 (by decide) rfl rfl dX7_copyFrom_78 ?_
  refine kput F V 4 8 0 tyX7_ok nmX7 rfl rfl iX7_copyFrom_X7 fX7_copyFrom_38 (by decide) rfl rfl rfl rfl (Nat.le_of_ble_eq_true rfl) dX7_copyFrom_81 (fun H locs V => ?_)
  have V : VW g A s.heap H locs (gX7 g a_this a_this_strokes a_this_firsts a_this_entries a_this_words strokes_8 firsts_19 entries_30 words_41 p1_strokeCount p1_itemCount p1_fixedCount p1_firstOpen p1_window ++ (gX7 g a_p1 a_p1_strokes a_p1_firsts a_p1_entries a_p1_words p1_strokes p1_firsts p1_entries p1_words p1_strokeCount p1_itemCount p1_fixedCount p1_firstOpen p1_window)) := V
  exact ret _ _ _ _ _ _ _ _ _ _ _ _ _ dX7_copyFrom_84 V hw
theorem hdX8_copyFrom : yX8_copyFrom.cls = RX8 ∧ yX8_copyFrom.cls ≠ "java/lang/invoke/MethodHandle" ∧ yX8_copyFrom.cls ≠ "java/lang/invoke/VarHandle" ∧ (parseMethodDescriptor yX8_copyFrom.desc).map (fun d => d.parameters.length) = some 1 := by decide +kernel
theorem fX8_copyFrom_10 : Cond.fieldLink RX8 10 RX8 "dictionary" "LChordDesk$Dictionary;" ∈ wsX8_copyFrom := by decide +kernel
theorem iX8_copyFrom_X8 : ∀ w ∈ u_ws RX8 TX8 2, w ∈ wsX8_copyFrom := by decide +kernel
theorem fX8_copyFrom_19 : Cond.fieldLink RX8 19 RX8 "session" "LChordDesk$Session;" ∈ wsX8_copyFrom := by decide +kernel
def wX8_copyFrom (p1_dictionary_outlines : Nat → Int64) (p1_dictionary_words : Nat → Int64) (p1_dictionary_size : Int32) (p1_session_strokes : Nat → Int32) (p1_session_firsts : Nat → Int32) (p1_session_entries : Nat → Int32) (p1_session_words : Nat → Int64) (p1_session_strokeCount : Int32) (p1_session_itemCount : Int32) (p1_session_fixedCount : Int32) (p1_session_firstOpen : Int32) (p1_session_window : Int32) (P : (Nat → Int64) → (Nat → Int64) → Int32 → (Nat → Int32) → (Nat → Int32) → (Nat → Int32) → (Nat → Int64) → Int32 → Int32 → Int32 → Int32 → Int32 → Prop) (dictionary_outlines : Nat → Int64) (dictionary_words : Nat → Int64) (dictionary_size : Int32) (session_strokes : Nat → Int32) (session_firsts : Nat → Int32) (session_entries : Nat → Int32) (session_words : Nat → Int64) (session_strokeCount : Int32) (session_itemCount : Int32) (session_fixedCount : Int32) (session_firstOpen : Int32) (session_window : Int32) : Prop := wX1_copyFrom p1_dictionary_outlines p1_dictionary_words p1_dictionary_size (fun dictionary_outlines_8 dictionary_words_8 dictionary_size_8 => wX7_copyFrom p1_session_strokes p1_session_firsts p1_session_entries p1_session_words p1_session_strokeCount p1_session_itemCount p1_session_fixedCount p1_session_firstOpen p1_session_window (fun session_strokes_19 session_firsts_19 session_entries_19 session_words_19 session_strokeCount_19 session_itemCount_19 session_fixedCount_19 session_firstOpen_19 session_window_19 => P dictionary_outlines_8 dictionary_words_8 dictionary_size_8 session_strokes_19 session_firsts_19 session_entries_19 session_words_19 session_strokeCount_19 session_itemCount_19 session_fixedCount_19 session_firstOpen_19 session_window_19) session_strokes session_firsts session_entries session_words session_strokeCount session_itemCount session_fixedCount session_firstOpen session_window) dictionary_outlines dictionary_words dictionary_size
set_option maxHeartbeats 4000000 in
set_option maxRecDepth 100000 in
theorem kX8_copyFrom (l : Launch) (g : kT) (a_this : Nat) (a_this_dictionary : Nat) (a_this_session : Nat) (a_this_dictionary_outlines : Nat) (a_this_dictionary_words : Nat) (a_this_session_strokes : Nat) (a_this_session_firsts : Nat) (a_this_session_entries : Nat) (a_this_session_words : Nat) (a_p1 : Nat) (a_p1_dictionary : Nat) (a_p1_session : Nat) (a_p1_dictionary_outlines : Nat) (a_p1_dictionary_words : Nat) (a_p1_session_strokes : Nat) (a_p1_session_firsts : Nat) (a_p1_session_entries : Nat) (a_p1_session_words : Nat) (dictionary_outlines : Nat → Int64) (dictionary_words : Nat → Int64) (dictionary_size : Int32) (session_strokes : Nat → Int32) (session_firsts : Nat → Int32) (session_entries : Nat → Int32) (session_words : Nat → Int64) (session_strokeCount : Int32) (session_itemCount : Int32) (session_fixedCount : Int32) (session_firstOpen : Int32) (session_window : Int32) (p1_dictionary_outlines : Nat → Int64) (p1_dictionary_words : Nat → Int64) (p1_dictionary_size : Int32) (p1_session_strokes : Nat → Int32) (p1_session_firsts : Nat → Int32) (p1_session_entries : Nat → Int32) (p1_session_words : Nat → Int64) (p1_session_strokeCount : Int32) (p1_session_itemCount : Int32) (p1_session_fixedCount : Int32) (p1_session_firstOpen : Int32) (p1_session_window : Int32) (P : (Nat → Int64) → (Nat → Int64) → Int32 → (Nat → Int32) → (Nat → Int32) → (Nat → Int32) → (Nat → Int64) → Int32 → Int32 → Int32 → Int32 → Int32 → Prop) (hw : wX8_copyFrom p1_dictionary_outlines p1_dictionary_words p1_dictionary_size p1_session_strokes p1_session_firsts p1_session_entries p1_session_words p1_session_strokeCount p1_session_itemCount p1_session_fixedCount p1_session_firstOpen p1_session_window P dictionary_outlines dictionary_words dictionary_size session_strokes session_firsts session_entries session_words session_strokeCount session_itemCount session_fixedCount session_firstOpen session_window) : Kv12 l g yX8_copyFrom wsX8_copyFrom 3 82 0 0 [.ref a_this, .ref a_p1] (gX8 g a_this a_this_dictionary a_this_session ++ (gX1 g a_this_dictionary a_this_dictionary_outlines a_this_dictionary_words dictionary_outlines dictionary_words dictionary_size ++ (gX7 g a_this_session a_this_session_strokes a_this_session_firsts a_this_session_entries a_this_session_words session_strokes session_firsts session_entries session_words session_strokeCount session_itemCount session_fixedCount session_firstOpen session_window ++ (gX8 g a_p1 a_p1_dictionary a_p1_session ++ (gX1 g a_p1_dictionary a_p1_dictionary_outlines a_p1_dictionary_words p1_dictionary_outlines p1_dictionary_words p1_dictionary_size ++ (gX7 g a_p1_session a_p1_session_strokes a_p1_session_firsts a_p1_session_entries a_p1_session_words p1_session_strokes p1_session_firsts p1_session_entries p1_session_words p1_session_strokeCount p1_session_itemCount p1_session_fixedCount p1_session_firstOpen p1_session_window)))))) P (fun dictionary_outlines dictionary_words dictionary_size session_strokes session_firsts session_entries session_words session_strokeCount session_itemCount session_fixedCount session_firstOpen session_window => (gX8 g a_this a_this_dictionary a_this_session ++ (gX1 g a_this_dictionary a_this_dictionary_outlines a_this_dictionary_words dictionary_outlines dictionary_words dictionary_size ++ (gX7 g a_this_session a_this_session_strokes a_this_session_firsts a_this_session_entries a_this_session_words session_strokes session_firsts session_entries session_words session_strokeCount session_itemCount session_fixedCount session_firstOpen session_window ++ (gX8 g a_p1 a_p1_dictionary a_p1_session ++ (gX1 g a_p1_dictionary a_p1_dictionary_outlines a_p1_dictionary_words p1_dictionary_outlines p1_dictionary_words p1_dictionary_size ++ (gX7 g a_p1_session a_p1_session_strokes a_p1_session_firsts a_p1_session_entries a_p1_session_words p1_session_strokes p1_session_firsts p1_session_entries p1_session_words p1_session_strokeCount p1_session_itemCount p1_session_fixedCount p1_session_firstOpen p1_session_window))))))) := by
  refine Kv12.mk (cc := cX8_copyFrom) (nL := 2) (by decide +kernel) rfl (Nat.le_of_ble_eq_true rfl) ?_
  intro p e s m below meth c A Q ls F hl V ret _
  have hx := F.x
  have hb := F.b
  have hl : lv_has ls 2 [(0, .ref a_this), (1, .ref a_p1)] := hl
  refine lv_aload_n hx hb dX8_copyFrom_0 rfl (lv_at hl 0 rfl) ?_
  refine kget F V 5 0 0 rfl rfl iX8_copyFrom_X8 fX8_copyFrom_10 (by decide) rfl rfl dX8_copyFrom_1 ?_
  refine lv_aload_n hx hb dX8_copyFrom_4 rfl (lv_at hl 1 rfl) ?_
  refine kget F V 5 0 9 rfl rfl iX8_copyFrom_X8 fX8_copyFrom_10 (by decide) rfl rfl dX8_copyFrom_5 ?_
  refine kVv3 (rest := []) F hl V [1, 2, 3, 10, 11, 12] [0, 4, 5, 6, 7, 8, 9, 13, 14, 15, 16, 17] [0, 12, 13, 14, 1, 2, 3, 4, 5, 6, 15, 16, 17, 7, 8, 9, 10, 11] (fun dictionary_outlines_8 dictionary_words_8 dictionary_size_8 => (gX8 g a_this a_this_dictionary a_this_session ++ (gX1 g a_this_dictionary a_this_dictionary_outlines a_this_dictionary_words dictionary_outlines_8 dictionary_words_8 dictionary_size_8 ++ (gX7 g a_this_session a_this_session_strokes a_this_session_firsts a_this_session_entries a_this_session_words session_strokes session_firsts session_entries session_words session_strokeCount session_itemCount session_fixedCount session_firstOpen session_window ++ (gX8 g a_p1 a_p1_dictionary a_p1_session ++ (gX1 g a_p1_dictionary a_p1_dictionary_outlines a_p1_dictionary_words p1_dictionary_outlines p1_dictionary_words p1_dictionary_size ++ (gX7 g a_p1_session a_p1_session_strokes a_p1_session_firsts a_p1_session_entries a_p1_session_words p1_session_strokes p1_session_firsts p1_session_entries p1_session_words p1_session_strokeCount p1_session_itemCount p1_session_fixedCount p1_session_firstOpen p1_session_window))))))) a_this_dictionary 1 1 rfl rfl (kX1_copyFrom l g a_this_dictionary a_this_dictionary_outlines a_this_dictionary_words a_p1_dictionary a_p1_dictionary_outlines a_p1_dictionary_words dictionary_outlines dictionary_words dictionary_size p1_dictionary_outlines p1_dictionary_words p1_dictionary_size _ hw) gX8_copyFrom_X1_copyFrom rfl 1 rfl hdX1_copyFrom rfl rfl (fun _ _ _ => rfl) rfl rfl rfl (by decide) ⟨Nat.le_of_ble_eq_true rfl, Nat.le_of_ble_eq_true rfl⟩ ⟨Nat.le_of_ble_eq_true rfl, Nat.le_of_ble_eq_true rfl⟩ (Nat.le_of_ble_eq_true rfl) rfl dX8_copyFrom_8 (fun dictionary_outlines_8 dictionary_words_8 dictionary_size_8 H locs hw V => ?_)
  refine lv_aload_n hx hb dX8_copyFrom_11 rfl (lv_at hl 0 rfl) ?_
  refine kget F V 5 1 0 rfl rfl iX8_copyFrom_X8 fX8_copyFrom_19 (by decide) rfl rfl dX8_copyFrom_12 ?_
  refine lv_aload_n hx hb dX8_copyFrom_15 rfl (lv_at hl 1 rfl) ?_
  refine kget F V 5 1 9 rfl rfl iX8_copyFrom_X8 fX8_copyFrom_19 (by decide) rfl rfl dX8_copyFrom_16 ?_
  refine kVv9 (rest := []) F hl V [4, 5, 6, 7, 8, 13, 14, 15, 16, 17] [0, 1, 2, 3, 9, 10, 11, 12] [0, 1, 2, 3, 8, 9, 10, 11, 12, 4, 5, 6, 7, 13, 14, 15, 16, 17] (fun session_strokes_19 session_firsts_19 session_entries_19 session_words_19 session_strokeCount_19 session_itemCount_19 session_fixedCount_19 session_firstOpen_19 session_window_19 => (gX8 g a_this a_this_dictionary a_this_session ++ (gX1 g a_this_dictionary a_this_dictionary_outlines a_this_dictionary_words dictionary_outlines_8 dictionary_words_8 dictionary_size_8 ++ (gX7 g a_this_session a_this_session_strokes a_this_session_firsts a_this_session_entries a_this_session_words session_strokes_19 session_firsts_19 session_entries_19 session_words_19 session_strokeCount_19 session_itemCount_19 session_fixedCount_19 session_firstOpen_19 session_window_19 ++ (gX8 g a_p1 a_p1_dictionary a_p1_session ++ (gX1 g a_p1_dictionary a_p1_dictionary_outlines a_p1_dictionary_words p1_dictionary_outlines p1_dictionary_words p1_dictionary_size ++ (gX7 g a_p1_session a_p1_session_strokes a_p1_session_firsts a_p1_session_entries a_p1_session_words p1_session_strokes p1_session_firsts p1_session_entries p1_session_words p1_session_strokeCount p1_session_itemCount p1_session_fixedCount p1_session_firstOpen p1_session_window))))))) a_this_session 4 4 rfl rfl (kX7_copyFrom l g a_this_session a_this_session_strokes a_this_session_firsts a_this_session_entries a_this_session_words a_p1_session a_p1_session_strokes a_p1_session_firsts a_p1_session_entries a_p1_session_words session_strokes session_firsts session_entries session_words session_strokeCount session_itemCount session_fixedCount session_firstOpen session_window p1_session_strokes p1_session_firsts p1_session_entries p1_session_words p1_session_strokeCount p1_session_itemCount p1_session_fixedCount p1_session_firstOpen p1_session_window _ hw) gX8_copyFrom_X7_copyFrom rfl 1 rfl hdX7_copyFrom rfl rfl (fun _ _ _ _ _ _ _ _ _ => rfl) rfl rfl rfl (by decide) ⟨Nat.le_of_ble_eq_true rfl, Nat.le_of_ble_eq_true rfl⟩ ⟨Nat.le_of_ble_eq_true rfl, Nat.le_of_ble_eq_true rfl⟩ (Nat.le_of_ble_eq_true rfl) rfl dX8_copyFrom_19 (fun session_strokes_19 session_firsts_19 session_entries_19 session_words_19 session_strokeCount_19 session_itemCount_19 session_fixedCount_19 session_firstOpen_19 session_window_19 H locs hw V => ?_)
  exact ret _ _ _ _ _ _ _ _ _ _ _ _ _ _ _ _ dX8_copyFrom_22 V hw
theorem hdX4_addEntries : yX4_addEntries.cls = RX4 ∧ yX4_addEntries.cls ≠ "java/lang/invoke/MethodHandle" ∧ yX4_addEntries.cls ≠ "java/lang/invoke/VarHandle" ∧ (parseMethodDescriptor yX4_addEntries.desc).map (fun d => d.parameters.length) = some 2 := by decide +kernel
theorem fX4_addEntries_35 : Cond.fieldLink RX4 35 RX0 "length" "I" ∈ wsX4_addEntries := by decide +kernel
theorem iX4_addEntries_X0 : ∀ w ∈ u_ws RX0 TX0 2, w ∈ wsX4_addEntries := by decide +kernel
theorem fX4_addEntries_40 : Cond.fieldLink RX4 40 RX0 "codes" "[I" ∈ wsX4_addEntries := by decide +kernel
theorem fX4_addEntries_9 : Cond.fieldLink RX4 9 RX4 "outline" "J" ∈ wsX4_addEntries := by decide +kernel
theorem iX4_addEntries_X4 : ∀ w ∈ u_ws RX4 TX4 6, w ∈ wsX4_addEntries := by decide +kernel
theorem fX4_addEntries_26 : Cond.fieldLink RX4 26 RX4 "word" "J" ∈ wsX4_addEntries := by decide +kernel
def wX4_addEntries_69 (p1_codes : Nat → Int32) (p1_length : Int32) (K6 : Int32 → Int64 → Int32 → Int32 → Int32 → Int64 → Int32 → (Nat → Int64) → (Nat → Int64) → Int32 → Prop) (P : Int32 → Int64 → Int32 → Int32 → Int32 → Int64 → Int32 → (Nat → Int64) → (Nat → Int64) → Int32 → Prop) (v3 : Int32) (v4 : Int32) (outline : Int64) (strokes : Int32) (keys : Int32) (inWord : Int32) (word : Int64) (letters : Int32) (p2_outlines : Nat → Int64) (p2_words : Nat → Int64) (p2_size : Int32) : Prop := wX4_reads v4 (fun r_72 outline_72 strokes_72 keys_72 inWord_72 word_72 letters_72 => K6 (v3 + 1) outline_72 strokes_72 keys_72 inWord_72 word_72 letters_72 p2_outlines p2_words p2_size) outline strokes keys inWord word letters
def wX4_addEntries_35 (p1_codes : Nat → Int32) (p1_length : Int32) (K6 : Int32 → Int64 → Int32 → Int32 → Int32 → Int64 → Int32 → (Nat → Int64) → (Nat → Int64) → Int32 → Prop) (P : Int32 → Int64 → Int32 → Int32 → Int32 → Int64 → Int32 → (Nat → Int64) → (Nat → Int64) → Int32 → Prop) (v3 : Int32) (s0 : Int32) (outline : Int64) (strokes : Int32) (keys : Int32) (inWord : Int32) (word : Int64) (letters : Int32) (p2_outlines : Nat → Int64) (p2_words : Nat → Int64) (p2_size : Int32) : Prop := (¬ s0 = 59 → wX4_addEntries_69 p1_codes p1_length K6 P v3 s0 outline strokes keys inWord word letters p2_outlines p2_words p2_size) ∧ (s0 = 59 → wX1_hasRoomFor p2_outlines p2_size outline (fun r_49 => (¬ r_49 = 0 → wX1_add outline word (fun p2_outlines_66 p2_words_66 p2_size_66 => wX4_addEntries_69 p1_codes p1_length K6 P v3 s0 outline strokes keys inWord word letters p2_outlines_66 p2_words_66 p2_size_66) p2_outlines p2_words p2_size) ∧ (r_49 = 0 → P 0 outline strokes keys inWord word letters p2_outlines p2_words p2_size)))
def wX4_addEntries_6 (p1_codes : Nat → Int32) (p1_length : Int32) (P : Int32 → Int64 → Int32 → Int32 → Int32 → Int64 → Int32 → (Nat → Int64) → (Nat → Int64) → Int32 → Prop) : Nat → Int32 → Int64 → Int32 → Int32 → Int32 → Int64 → Int32 → (Nat → Int64) → (Nat → Int64) → Int32 → Prop
  | 0, _, _, _, _, _, _, _, _, _, _ => False
  | n + 1, v3, outline, strokes, keys, inWord, word, letters, p2_outlines, p2_words, p2_size => (p1_length < v3 → P 1 outline strokes keys inWord word letters p2_outlines p2_words p2_size) ∧ (¬ (p1_length < v3) → (p1_length ≤ v3 → wX4_addEntries_35 p1_codes p1_length (wX4_addEntries_6 p1_codes p1_length P n) P v3 59 outline strokes keys inWord word letters p2_outlines p2_words p2_size) ∧ (¬ (p1_length ≤ v3) → wX6_at 60 p1_codes v3 (fun r_27 => wX4_addEntries_35 p1_codes p1_length (wX4_addEntries_6 p1_codes p1_length P n) P v3 r_27 outline strokes keys inWord word letters p2_outlines p2_words p2_size)))
def wX4_addEntries (p1_codes : Nat → Int32) (p1_length : Int32) (P : Int32 → Int64 → Int32 → Int32 → Int32 → Int64 → Int32 → (Nat → Int64) → (Nat → Int64) → Int32 → Prop) (outline : Int64) (strokes : Int32) (keys : Int32) (inWord : Int32) (word : Int64) (letters : Int32) (p2_outlines : Nat → Int64) (p2_words : Nat → Int64) (p2_size : Int32) : Prop := wX4_restart (fun outline_1 strokes_1 keys_1 inWord_1 word_1 letters_1 => ∃ n_6, wX4_addEntries_6 p1_codes p1_length P n_6 0 outline_1 strokes_1 keys_1 inWord_1 word_1 letters_1 p2_outlines p2_words p2_size) outline strokes keys inWord word letters
set_option maxHeartbeats 4000000 in
set_option maxRecDepth 100000 in
theorem kX4_addEntries (l : Launch) (g : kT) (a_this : Nat) (a_p1 : Nat) (a_p1_codes : Nat) (a_p2 : Nat) (a_p2_outlines : Nat) (a_p2_words : Nat) (outline : Int64) (strokes : Int32) (keys : Int32) (inWord : Int32) (word : Int64) (letters : Int32) (p1_codes : Nat → Int32) (p1_length : Int32) (p2_outlines : Nat → Int64) (p2_words : Nat → Int64) (p2_size : Int32) (P : Int32 → Int64 → Int32 → Int32 → Int32 → Int64 → Int32 → (Nat → Int64) → (Nat → Int64) → Int32 → Prop) (hw : wX4_addEntries p1_codes p1_length P outline strokes keys inWord word letters p2_outlines p2_words p2_size) : Ki9 l g yX4_addEntries wsX4_addEntries 4 86 0 0 [.ref a_this, .ref a_p1, .ref a_p2] (gX4 g a_this outline strokes keys inWord word letters ++ (gX0 g a_p1 a_p1_codes p1_codes p1_length ++ (gX1 g a_p2 a_p2_outlines a_p2_words p2_outlines p2_words p2_size))) P (fun outline strokes keys inWord word letters p2_outlines p2_words p2_size => (gX4 g a_this outline strokes keys inWord word letters ++ (gX0 g a_p1 a_p1_codes p1_codes p1_length ++ (gX1 g a_p2 a_p2_outlines a_p2_words p2_outlines p2_words p2_size)))) := by
  refine Ki9.mk (cc := cX4_addEntries) (nL := 5) (ty := .boolean) (by decide +kernel) rfl (Nat.le_of_ble_eq_true rfl) ?_
  intro p e s m below meth c A Q ls F hl V ret
  have hx := F.x
  have hb := F.b
  have hl : lv_has ls 5 [(0, .ref a_this), (1, .ref a_p1), (2, .ref a_p2)] := hl
  have B69 : ∀ (K6 : Int32 → Int64 → Int32 → Int32 → Int32 → Int64 → Int32 → (Nat → Int64) → (Nat → Int64) → Int32 → Prop) (k6 : ∀ {H : Heap} {locs : List Loc} {ls : Array Slot} (v3 : Int32) (outline : Int64) (strokes : Int32) (keys : Int32) (inWord : Int32) (word : Int64) (letters : Int32) (p2_outlines : Nat → Int64) (p2_words : Nat → Int64) (p2_size : Int32), VW g A s.heap H locs (gX4 g a_this outline strokes keys inWord word letters ++ (gX0 g a_p1 a_p1_codes p1_codes p1_length ++ (gX1 g a_p2 a_p2_outlines a_p2_words p2_outlines p2_words p2_size))) → lv_has ls 5 [(0, .ref a_this), (1, .ref a_p1), (2, .ref a_p2), (3, .int v3)] → K6 v3 outline strokes keys inWord word letters p2_outlines p2_words p2_size → W p l e (kR 4 86 0 0) s m ([.ref a_this, .ref a_p1, .ref a_p2] : List Value).toArray below meth c H locs 0 0 Q (F0 m 6 ls [])), ∀ {H : Heap} {locs : List Loc} {ls : Array Slot} (v3 : Int32) (v4 : Int32) (outline : Int64) (strokes : Int32) (keys : Int32) (inWord : Int32) (word : Int64) (letters : Int32) (p2_outlines : Nat → Int64) (p2_words : Nat → Int64) (p2_size : Int32) (V : VW g A s.heap H locs (gX4 g a_this outline strokes keys inWord word letters ++ (gX0 g a_p1 a_p1_codes p1_codes p1_length ++ (gX1 g a_p2 a_p2_outlines a_p2_words p2_outlines p2_words p2_size)))) (hl : lv_has ls 5 [(0, .ref a_this), (1, .ref a_p1), (2, .ref a_p2), (3, .int v3), (4, .int v4)]) (hw : wX4_addEntries_69 p1_codes p1_length K6 P v3 v4 outline strokes keys inWord word letters p2_outlines p2_words p2_size), W p l e (kR 4 86 0 0) s m ([.ref a_this, .ref a_p1, .ref a_p2] : List Value).toArray below meth c H locs 0 0 Q (F0 m 69 ls []) := by
    intro K6 k6 H locs ls v3 v4 outline strokes keys inWord word letters p2_outlines p2_words p2_size V hl hw
    refine lv_aload_n hx hb dX4_addEntries_69 rfl (lv_at hl 0 rfl) ?_
    refine lv_iload hx hb dX4_addEntries_70 (lv_at hl 4 rfl) ?_
    refine kVi6 (rest := []) F hl V [0] [1, 2, 3, 4, 5] [5, 0, 1, 2, 3, 4] (fun outline_72 strokes_72 keys_72 inWord_72 word_72 letters_72 => (gX4 g a_this outline_72 strokes_72 keys_72 inWord_72 word_72 letters_72 ++ (gX0 g a_p1 a_p1_codes p1_codes p1_length ++ (gX1 g a_p2 a_p2_outlines a_p2_words p2_outlines p2_words p2_size)))) a_this 3 0 rfl rfl (kX4_reads l g a_this outline strokes keys inWord word letters v4 _ hw) gX4_addEntries_X4_reads rfl 1 rfl hdX4_reads rfl rfl (fun _ _ _ _ _ _ => rfl) rfl rfl rfl (by decide) ⟨Nat.le_of_ble_eq_true rfl, Nat.le_of_ble_eq_true rfl⟩ ⟨Nat.le_of_ble_eq_true rfl, Nat.le_of_ble_eq_true rfl⟩ (Nat.le_of_ble_eq_true rfl) rfl dX4_addEntries_72 (fun r_72 outline_72 strokes_72 keys_72 inWord_72 word_72 letters_72 H locs hw V => ?_)
    refine lv_pop hx hb dX4_addEntries_75 rfl ?_
    refine lv_iinc (v := v3 + 1) (lv' := [(3, .int (v3 + 1)), (0, .ref a_this), (1, .ref a_p1), (2, .ref a_p2), (4, .int v4)]) hx hb dX4_addEntries_76 hl (k := 3) rfl rfl (by decide) rfl (fun ls hl => ?_)
    refine lv_goto (tgt := 6) hx hb dX4_addEntries_79 (by decide) ?_
    exact k6 (v3 + 1) outline_72 strokes_72 keys_72 inWord_72 word_72 letters_72 p2_outlines p2_words p2_size V (lv_sub hl [1, 2, 3, 0] rfl) hw
  have B35 : ∀ (K6 : Int32 → Int64 → Int32 → Int32 → Int32 → Int64 → Int32 → (Nat → Int64) → (Nat → Int64) → Int32 → Prop) (k6 : ∀ {H : Heap} {locs : List Loc} {ls : Array Slot} (v3 : Int32) (outline : Int64) (strokes : Int32) (keys : Int32) (inWord : Int32) (word : Int64) (letters : Int32) (p2_outlines : Nat → Int64) (p2_words : Nat → Int64) (p2_size : Int32), VW g A s.heap H locs (gX4 g a_this outline strokes keys inWord word letters ++ (gX0 g a_p1 a_p1_codes p1_codes p1_length ++ (gX1 g a_p2 a_p2_outlines a_p2_words p2_outlines p2_words p2_size))) → lv_has ls 5 [(0, .ref a_this), (1, .ref a_p1), (2, .ref a_p2), (3, .int v3)] → K6 v3 outline strokes keys inWord word letters p2_outlines p2_words p2_size → W p l e (kR 4 86 0 0) s m ([.ref a_this, .ref a_p1, .ref a_p2] : List Value).toArray below meth c H locs 0 0 Q (F0 m 6 ls [])), ∀ {H : Heap} {locs : List Loc} {ls : Array Slot} (v3 : Int32) (s0 : Int32) (outline : Int64) (strokes : Int32) (keys : Int32) (inWord : Int32) (word : Int64) (letters : Int32) (p2_outlines : Nat → Int64) (p2_words : Nat → Int64) (p2_size : Int32) (V : VW g A s.heap H locs (gX4 g a_this outline strokes keys inWord word letters ++ (gX0 g a_p1 a_p1_codes p1_codes p1_length ++ (gX1 g a_p2 a_p2_outlines a_p2_words p2_outlines p2_words p2_size)))) (hl : lv_has ls 5 [(0, .ref a_this), (1, .ref a_p1), (2, .ref a_p2), (3, .int v3)]) (hw : wX4_addEntries_35 p1_codes p1_length K6 P v3 s0 outline strokes keys inWord word letters p2_outlines p2_words p2_size), W p l e (kR 4 86 0 0) s m ([.ref a_this, .ref a_p1, .ref a_p2] : List Value).toArray below meth c H locs 0 0 Q (F0 m 35 ls [.int s0]) := by
    intro K6 k6 H locs ls v3 s0 outline strokes keys inWord word letters p2_outlines p2_words p2_size V hl hw
    refine lv_istore (lv' := [(4, .int s0), (0, .ref a_this), (1, .ref a_p1), (2, .ref a_p2), (3, .int v3)]) hx hb dX4_addEntries_35 hl (by decide) rfl (fun ls hl => ?_)
    refine lv_iload hx hb dX4_addEntries_37 (lv_at hl 0 rfl) ?_
    refine lv_bipush (v := 59) hx hb dX4_addEntries_39 (by decide) ?_
    refine lv_icmp_ne (tgt := 69) hx hb dX4_addEntries_41 (by decide) (fun c_41 => ?_) (fun c_41 => ?_)
    · have hw := hw.1 c_41
      exact B69 K6 k6 v3 s0 outline strokes keys inWord word letters p2_outlines p2_words p2_size V (lv_sub hl [1, 2, 3, 4, 0] rfl) hw
    · have hw := hw.2 c_41
      refine lv_aload_n hx hb dX4_addEntries_44 rfl (lv_at hl 3 rfl) ?_
      refine lv_aload_n hx hb dX4_addEntries_45 rfl (lv_at hl 1 rfl) ?_
      refine kget F V 3 0 0 rfl rfl iX4_addEntries_X4 fX4_addEntries_9 (by decide) rfl rfl dX4_addEntries_46 ?_
      refine kVi0 (rest := []) F hl V [3, 4, 5] [0, 1, 2] [0, 1, 2, 3, 4, 5] (gX4 g a_this outline strokes keys inWord word letters ++ (gX0 g a_p1 a_p1_codes p1_codes p1_length ++ (gX1 g a_p2 a_p2_outlines a_p2_words p2_outlines p2_words p2_size))) a_p2 1 3 rfl rfl (kX1_hasRoomFor l g a_p2 a_p2_outlines a_p2_words p2_outlines p2_words p2_size outline _ hw) gX4_addEntries_X1_hasRoomFor rfl 1 rfl hdX1_hasRoomFor rfl rfl (fun _ => rfl) rfl rfl rfl (by decide) ⟨Nat.le_of_ble_eq_true rfl, Nat.le_of_ble_eq_true rfl⟩ ⟨Nat.le_of_ble_eq_true rfl, Nat.le_of_ble_eq_true rfl⟩ (Nat.le_of_ble_eq_true rfl) rfl dX4_addEntries_49 (fun r_49 H locs hw V => ?_)
      refine lv_if_ne (tgt := 57) hx hb dX4_addEntries_52 (by decide) (fun c_52 => ?_) (fun c_52 => ?_)
      · have hw := hw.1 c_52
        refine lv_aload_n hx hb dX4_addEntries_57 rfl (lv_at hl 3 rfl) ?_
        refine lv_aload_n hx hb dX4_addEntries_58 rfl (lv_at hl 1 rfl) ?_
        refine kget F V 3 0 0 rfl rfl iX4_addEntries_X4 fX4_addEntries_9 (by decide) rfl rfl dX4_addEntries_59 ?_
        refine lv_aload_n hx hb dX4_addEntries_62 rfl (lv_at hl 1 rfl) ?_
        refine kget F V 3 4 0 rfl rfl iX4_addEntries_X4 fX4_addEntries_26 (by decide) rfl rfl dX4_addEntries_63 ?_
        refine kVv3 (rest := []) F hl V [3, 4, 5] [0, 1, 2] [0, 1, 2, 3, 4, 5] (fun p2_outlines_66 p2_words_66 p2_size_66 => (gX4 g a_this outline strokes keys inWord word letters ++ (gX0 g a_p1 a_p1_codes p1_codes p1_length ++ (gX1 g a_p2 a_p2_outlines a_p2_words p2_outlines_66 p2_words_66 p2_size_66)))) a_p2 1 3 rfl rfl (kX1_add l g a_p2 a_p2_outlines a_p2_words p2_outlines p2_words p2_size outline word _ hw) gX4_addEntries_X1_add rfl 2 rfl hdX1_add rfl rfl (fun _ _ _ => rfl) rfl rfl rfl (by decide) ⟨Nat.le_of_ble_eq_true rfl, Nat.le_of_ble_eq_true rfl⟩ ⟨Nat.le_of_ble_eq_true rfl, Nat.le_of_ble_eq_true rfl⟩ (Nat.le_of_ble_eq_true rfl) rfl dX4_addEntries_66 (fun p2_outlines_66 p2_words_66 p2_size_66 H locs hw V => ?_)
        exact B69 K6 k6 v3 s0 outline strokes keys inWord word letters p2_outlines_66 p2_words_66 p2_size_66 V (lv_sub hl [1, 2, 3, 4, 0] rfl) hw
      · have hw := hw.2 c_52
        refine lv_iconst (v := 0) hx hb dX4_addEntries_55 (by decide) ?_
        exact ret _ _ _ _ _ _ _ _ _ _ _ _ _ _ rfl dX4_addEntries_56 V hw
  have B6 :  ∀ (n : Nat), ∀ {H : Heap} {locs : List Loc} {ls : Array Slot} (v3 : Int32) (outline : Int64) (strokes : Int32) (keys : Int32) (inWord : Int32) (word : Int64) (letters : Int32) (p2_outlines : Nat → Int64) (p2_words : Nat → Int64) (p2_size : Int32) (V : VW g A s.heap H locs (gX4 g a_this outline strokes keys inWord word letters ++ (gX0 g a_p1 a_p1_codes p1_codes p1_length ++ (gX1 g a_p2 a_p2_outlines a_p2_words p2_outlines p2_words p2_size)))) (hl : lv_has ls 5 [(0, .ref a_this), (1, .ref a_p1), (2, .ref a_p2), (3, .int v3)]) (hw : wX4_addEntries_6 p1_codes p1_length P n v3 outline strokes keys inWord word letters p2_outlines p2_words p2_size), W p l e (kR 4 86 0 0) s m ([.ref a_this, .ref a_p1, .ref a_p2] : List Value).toArray below meth c H locs 0 0 Q (F0 m 6 ls []) := by
    intro n
    induction n with
    | zero => intro _ _ _ _ _ _ _ _ _ _ _ _ _ V hl hw; exact hw.elim
    | succ n ih =>
      intro H locs ls v3 outline strokes keys inWord word letters p2_outlines p2_words p2_size V hl hw
      refine lv_iload_n hx hb dX4_addEntries_6 rfl (lv_at hl 3 rfl) ?_
      refine lv_aload_n hx hb dX4_addEntries_7 rfl (lv_at hl 1 rfl) ?_
      refine kget F V 0 1 1 rfl rfl iX4_addEntries_X0 fX4_addEntries_35 (by decide) rfl rfl dX4_addEntries_8 ?_
      refine lv_icmp_gt (tgt := 82) hx hb dX4_addEntries_11 (by decide) (fun c_11 => ?_) (fun c_11 => ?_)
      · have hw := hw.1 c_11
        refine lv_iconst (v := 1) hx hb dX4_addEntries_82 (by decide) ?_
        exact ret _ _ _ _ _ _ _ _ _ _ _ _ _ _ rfl dX4_addEntries_83 V hw
      · have hw := hw.2 c_11
        refine lv_iload_n hx hb dX4_addEntries_14 rfl (lv_at hl 3 rfl) ?_
        refine lv_aload_n hx hb dX4_addEntries_15 rfl (lv_at hl 1 rfl) ?_
        refine kget F V 0 1 1 rfl rfl iX4_addEntries_X0 fX4_addEntries_35 (by decide) rfl rfl dX4_addEntries_16 ?_
        refine lv_icmp_ge (tgt := 33) hx hb dX4_addEntries_19 (by decide) (fun c_19 => ?_) (fun c_19 => ?_)
        · have hw := hw.1 c_19
          refine lv_bipush (v := 59) hx hb dX4_addEntries_33 (by decide) ?_
          exact B35 (wX4_addEntries_6 p1_codes p1_length P n) ih v3 59 outline strokes keys inWord word letters p2_outlines p2_words p2_size V hl hw
        · have hw := hw.2 c_19
          refine lv_aload_n hx hb dX4_addEntries_22 rfl (lv_at hl 1 rfl) ?_
          refine kget F V 0 0 1 rfl rfl iX4_addEntries_X0 fX4_addEntries_40 (by decide) rfl rfl dX4_addEntries_23 ?_
          refine lv_iload_n hx hb dX4_addEntries_26 rfl (lv_at hl 3 rfl) ?_
          refine kSi0 (rest := []) F hl V [2] [0, 1, 3, 4, 5] [0, 1, 5, 2, 3, 4] (gX4 g a_this outline strokes keys inWord word letters ++ (gX0 g a_p1 a_p1_codes p1_codes p1_length ++ (gX1 g a_p2 a_p2_outlines a_p2_words p2_outlines p2_words p2_size))) (kX6_at l g a_p1_codes 60 p1_codes v3 _ hw) gX4_addEntries_X6_at rfl 2 rfl hdX6_at rfl rfl (fun _ => rfl) rfl rfl rfl (by decide) ⟨Nat.le_of_ble_eq_true rfl, Nat.le_of_ble_eq_true rfl⟩ ⟨Nat.le_of_ble_eq_true rfl, Nat.le_of_ble_eq_true rfl⟩ (Nat.le_of_ble_eq_true rfl) rfl dX4_addEntries_27 (fun r_27 H locs hw V => ?_)
          refine lv_goto (tgt := 35) hx hb dX4_addEntries_30 (by decide) ?_
          exact B35 (wX4_addEntries_6 p1_codes p1_length P n) ih v3 r_27 outline strokes keys inWord word letters p2_outlines p2_words p2_size V hl hw
  refine lv_aload_n hx hb dX4_addEntries_0 rfl (lv_at hl 0 rfl) ?_
  refine kVv6 (rest := []) F hl V [0] [1, 2, 3, 4, 5] [5, 0, 1, 2, 3, 4] (fun outline_1 strokes_1 keys_1 inWord_1 word_1 letters_1 => (gX4 g a_this outline_1 strokes_1 keys_1 inWord_1 word_1 letters_1 ++ (gX0 g a_p1 a_p1_codes p1_codes p1_length ++ (gX1 g a_p2 a_p2_outlines a_p2_words p2_outlines p2_words p2_size)))) a_this 3 0 rfl rfl (kX4_restart l g a_this outline strokes keys inWord word letters _ hw) gX4_addEntries_X4_restart rfl 0 rfl hdX4_restart rfl rfl (fun _ _ _ _ _ _ => rfl) rfl rfl rfl (by decide) ⟨Nat.le_of_ble_eq_true rfl, Nat.le_of_ble_eq_true rfl⟩ ⟨Nat.le_of_ble_eq_true rfl, Nat.le_of_ble_eq_true rfl⟩ (Nat.le_of_ble_eq_true rfl) rfl dX4_addEntries_1 (fun outline_1 strokes_1 keys_1 inWord_1 word_1 letters_1 H locs hw V => ?_)
  refine lv_iconst (v := 0) hx hb dX4_addEntries_4 (by decide) ?_
  refine lv_istore_n (lv' := [(3, .int 0), (0, .ref a_this), (1, .ref a_p1), (2, .ref a_p2)]) hx hb dX4_addEntries_5 rfl hl (by decide) rfl (fun ls hl => ?_)
  obtain ⟨n_6, hw⟩ := hw
  exact B6  n_6 0 outline_1 strokes_1 keys_1 inWord_1 word_1 letters_1 p2_outlines p2_words p2_size V (lv_sub hl [1, 2, 3, 0] rfl) hw
theorem hdX7_itemWith : yX7_itemWith.cls = RX7 ∧ yX7_itemWith.cls ≠ "java/lang/invoke/MethodHandle" ∧ yX7_itemWith.cls ≠ "java/lang/invoke/VarHandle" ∧ (parseMethodDescriptor yX7_itemWith.desc).map (fun d => d.parameters.length) = some 1 := by decide +kernel
theorem fX7_itemWith_29 : Cond.fieldLink RX7 29 RX7 "itemCount" "I" ∈ wsX7_itemWith := by decide +kernel
theorem iX7_itemWith_X7 : ∀ w ∈ u_ws RX7 TX7 9, w ∈ wsX7_itemWith := by decide +kernel
def wX7_itemWith_7 (firsts : Nat → Int32) (strokeCount : Int32) (itemCount : Int32) (p1 : Int32) (P : Int32 → Prop) : Nat → Int32 → Prop
  | 0, _ => False
  | n + 1, v2 => (v2 ≤ 0 → P 0) ∧ (¬ (v2 ≤ 0) → wX7_firstOf firsts strokeCount itemCount v2 (fun r_13 => (p1 < r_13 → (wX7_itemWith_7 firsts strokeCount itemCount p1 P n) (v2 + (-1))) ∧ (¬ (p1 < r_13) → P v2)))
def wX7_itemWith (firsts : Nat → Int32) (strokeCount : Int32) (itemCount : Int32) (p1 : Int32) (P : Int32 → Prop) : Prop := ∀ v2_6 : Int32, v2_6 = (itemCount - 1) → ∃ n_7, wX7_itemWith_7 firsts strokeCount itemCount p1 P n_7 v2_6
set_option maxHeartbeats 4000000 in
set_option maxRecDepth 100000 in
theorem kX7_itemWith (l : Launch) (g : kT) (a_this : Nat) (a_this_strokes : Nat) (a_this_firsts : Nat) (a_this_entries : Nat) (a_this_words : Nat) (strokes : Nat → Int32) (firsts : Nat → Int32) (entries : Nat → Int32) (words : Nat → Int64) (strokeCount : Int32) (itemCount : Int32) (fixedCount : Int32) (firstOpen : Int32) (window : Int32) (p1 : Int32) (P : Int32 → Prop) (hw : wX7_itemWith firsts strokeCount itemCount p1 P) : Ki0 l g yX7_itemWith wsX7_itemWith 2 42 0 0 [.ref a_this, .int p1] (gX7 g a_this a_this_strokes a_this_firsts a_this_entries a_this_words strokes firsts entries words strokeCount itemCount fixedCount firstOpen window) P (gX7 g a_this a_this_strokes a_this_firsts a_this_entries a_this_words strokes firsts entries words strokeCount itemCount fixedCount firstOpen window) := by
  refine Ki0.mk (cc := cX7_itemWith) (nL := 3) (ty := .int) (by decide +kernel) rfl (Nat.le_of_ble_eq_true rfl) ?_
  intro p e s m below meth c A Q ls F hl V ret
  have hx := F.x
  have hb := F.b
  have hl : lv_has ls 3 [(0, .ref a_this), (1, .int p1)] := hl
  have B7 :  ∀ (n : Nat), ∀ {H : Heap} {locs : List Loc} {ls : Array Slot} (v2 : Int32) (V : VW g A s.heap H locs (gX7 g a_this a_this_strokes a_this_firsts a_this_entries a_this_words strokes firsts entries words strokeCount itemCount fixedCount firstOpen window)) (hl : lv_has ls 3 [(0, .ref a_this), (1, .int p1), (2, .int v2)]) (hw : wX7_itemWith_7 firsts strokeCount itemCount p1 P n v2), W p l e (kR 2 42 0 0) s m ([.ref a_this, .int p1] : List Value).toArray below meth c H locs 0 0 Q (F0 m 7 ls []) := by
    intro n
    induction n with
    | zero => intro _ _ _ _ V hl hw; exact hw.elim
    | succ n ih =>
      intro H locs ls v2 V hl hw
      refine lv_iload_n hx hb dX7_itemWith_7 rfl (lv_at hl 2 rfl) ?_
      refine lv_if_le (tgt := 28) hx hb dX7_itemWith_8 (by decide) (fun c_8 => ?_) (fun c_8 => ?_)
      · have hw := hw.1 c_8
        refine lv_iconst (v := 0) hx hb dX7_itemWith_28 (by decide) ?_
        exact ret _ _ _ _ _ rfl dX7_itemWith_29 V hw
      · have hw := hw.2 c_8
        refine lv_aload_n hx hb dX7_itemWith_11 rfl (lv_at hl 0 rfl) ?_
        refine lv_iload_n hx hb dX7_itemWith_12 rfl (lv_at hl 2 rfl) ?_
        refine kVi0 (rest := []) F hl V [0, 1, 2, 3, 4] [] [0, 1, 2, 3, 4] (gX7 g a_this a_this_strokes a_this_firsts a_this_entries a_this_words strokes firsts entries words strokeCount itemCount fixedCount firstOpen window) a_this 4 0 rfl rfl (kX7_firstOf l g a_this a_this_strokes a_this_firsts a_this_entries a_this_words strokes firsts entries words strokeCount itemCount fixedCount firstOpen window v2 _ hw) gX7_itemWith_X7_firstOf rfl 1 rfl hdX7_firstOf rfl rfl (fun _ => rfl) rfl rfl rfl (by decide) ⟨Nat.le_of_ble_eq_true rfl, Nat.le_of_ble_eq_true rfl⟩ ⟨Nat.le_of_ble_eq_true rfl, Nat.le_of_ble_eq_true rfl⟩ (Nat.le_of_ble_eq_true rfl) rfl dX7_itemWith_13 (fun r_13 H locs hw V => ?_)
        refine lv_iload_n hx hb dX7_itemWith_16 rfl (lv_at hl 1 rfl) ?_
        refine lv_icmp_gt (tgt := 22) hx hb dX7_itemWith_17 (by decide) (fun c_17 => ?_) (fun c_17 => ?_)
        · have hw := hw.1 c_17
          refine lv_iinc (v := v2 + (-1)) (lv' := [(2, .int (v2 + (-1))), (0, .ref a_this), (1, .int p1)]) hx hb dX7_itemWith_22 hl (k := 2) rfl rfl (by decide) rfl (fun ls hl => ?_)
          refine lv_goto (tgt := 7) hx hb dX7_itemWith_25 (by decide) ?_
          exact ih (v2 + (-1)) V (lv_sub hl [1, 2, 0] rfl) hw
        · have hw := hw.2 c_17
          refine lv_iload_n hx hb dX7_itemWith_20 rfl (lv_at hl 2 rfl) ?_
          exact ret _ _ _ _ _ rfl dX7_itemWith_21 V hw
  refine lv_aload_n hx hb dX7_itemWith_0 rfl (lv_at hl 0 rfl) ?_
  refine kget F V 4 5 0 rfl rfl iX7_itemWith_X7 fX7_itemWith_29 (by decide) rfl rfl dX7_itemWith_1 ?_
  refine lv_iconst (v := 1) hx hb dX7_itemWith_4 (by decide) ?_
  refine lv_isub hx hb dX7_itemWith_5 ?_
  refine lv_topi (fun v2_6 ev2_6 => ?_)
  have hw := hw v2_6 ev2_6
  refine lv_istore_n (lv' := [(2, .int v2_6), (0, .ref a_this), (1, .int p1)]) hx hb dX7_itemWith_6 rfl hl (by decide) rfl (fun ls hl => ?_)
  obtain ⟨n_7, hw⟩ := hw
  exact B7  n_7 v2_6 V (lv_sub hl [1, 2, 0] rfl) hw
theorem hdX11_strokeAt : yX11_strokeAt.cls = RX11 ∧ yX11_strokeAt.cls ≠ "java/lang/invoke/MethodHandle" ∧ yX11_strokeAt.cls ≠ "java/lang/invoke/VarHandle" ∧ (parseMethodDescriptor yX11_strokeAt.desc).map (fun d => d.parameters.length) = some 2 := by decide +kernel
theorem fX11_strokeAt_10 : Cond.fieldLink RX11 10 RX11 "now" "LChordDesk$State;" ∈ wsX11_strokeAt := by decide +kernel
theorem iX11_strokeAt_X11 : ∀ w ∈ u_ws RX11 TX11 6, w ∈ wsX11_strokeAt := by decide +kernel
theorem fX11_strokeAt_58 : Cond.fieldLink RX11 58 RX8 "session" "LChordDesk$Session;" ∈ wsX11_strokeAt := by decide +kernel
theorem iX11_strokeAt_X8 : ∀ w ∈ u_ws RX8 TX8 2, w ∈ wsX11_strokeAt := by decide +kernel
theorem fX11_strokeAt_62 : Cond.fieldLink RX11 62 RX7 "strokeCount" "I" ∈ wsX11_strokeAt := by decide +kernel
theorem iX11_strokeAt_X7 : ∀ w ∈ u_ws RX7 TX7 9, w ∈ wsX11_strokeAt := by decide +kernel
theorem fX11_strokeAt_86 : Cond.fieldLink RX11 86 RX7 "strokes" "[I" ∈ wsX11_strokeAt := by decide +kernel
def wX11_strokeAt_37 (now_session_strokes : Nat → Int32) (now_session_firsts : Nat → Int32) (now_session_strokeCount : Int32) (now_session_itemCount : Int32) (p1 : Int32) (p2 : Int32) (P : Int32 → Prop) (X : String → Prop) : Prop := X "java/lang/IllegalArgumentException"
def wX11_strokeAt_18 (now_session_strokes : Nat → Int32) (now_session_firsts : Nat → Int32) (now_session_strokeCount : Int32) (now_session_itemCount : Int32) (p1 : Int32) (p2 : Int32) (P : Int32 → Prop) (X : String → Prop) : Prop := X "java/lang/IndexOutOfBoundsException"
def wX11_strokeAt (now_session_strokes : Nat → Int32) (now_session_firsts : Nat → Int32) (now_session_strokeCount : Int32) (now_session_itemCount : Int32) (p1 : Int32) (p2 : Int32) (P : Int32 → Prop) (X : String → Prop) : Prop := (p1 < 0 → wX11_strokeAt_18 now_session_strokes now_session_firsts now_session_strokeCount now_session_itemCount p1 p2 P X) ∧ (¬ (p1 < 0) → (p1 < now_session_strokeCount → (p2 < 0 → wX11_strokeAt_37 now_session_strokes now_session_firsts now_session_strokeCount now_session_itemCount p1 p2 P X) ∧ (¬ (p2 < 0) → (p2 < 3 → wX6_at 61 now_session_strokes p1 (fun r_58 => (p2 = 0 → P r_58) ∧ (p2 = 1 → wJ6_bitCount_0f7a4 (fun r_91 => P r_91) r_58) ∧ (¬ p2 = 0 → ¬ p2 = 1 → wX7_itemWith now_session_firsts now_session_strokeCount now_session_itemCount p1 (fun r_103 => P r_103)))) ∧ (¬ (p2 < 3) → wX11_strokeAt_37 now_session_strokes now_session_firsts now_session_strokeCount now_session_itemCount p1 p2 P X))) ∧ (¬ (p1 < now_session_strokeCount) → wX11_strokeAt_18 now_session_strokes now_session_firsts now_session_strokeCount now_session_itemCount p1 p2 P X))
set_option maxHeartbeats 4000000 in
set_option maxRecDepth 100000 in
theorem kX11_strokeAt (l : Launch) (g : kT) (a_this : Nat) (a_this_now : Nat) (a_this_trial : Nat) (a_this_history : Nat) (a_this_buffer : Nat) (a_this_reader : Nat) (a_this_writing : Nat) (a_this_now_dictionary : Nat) (a_this_now_session : Nat) (a_this_now_session_strokes : Nat) (a_this_now_session_firsts : Nat) (a_this_now_session_entries : Nat) (a_this_now_session_words : Nat) (now_session_strokes : Nat → Int32) (now_session_firsts : Nat → Int32) (now_session_entries : Nat → Int32) (now_session_words : Nat → Int64) (now_session_strokeCount : Int32) (now_session_itemCount : Int32) (now_session_fixedCount : Int32) (now_session_firstOpen : Int32) (now_session_window : Int32) (p1 : Int32) (p2 : Int32) (P : Int32 → Prop) (hw : wX11_strokeAt now_session_strokes now_session_firsts now_session_strokeCount now_session_itemCount p1 p2 P (fun _ => False)) : Ki0 l g yX11_strokeAt wsX11_strokeAt 6 90 0 0 [.ref a_this, .int p1, .int p2] (gX11 g a_this a_this_now a_this_trial a_this_history a_this_buffer a_this_reader a_this_writing ++ (gX8 g a_this_now a_this_now_dictionary a_this_now_session ++ (gX7 g a_this_now_session a_this_now_session_strokes a_this_now_session_firsts a_this_now_session_entries a_this_now_session_words now_session_strokes now_session_firsts now_session_entries now_session_words now_session_strokeCount now_session_itemCount now_session_fixedCount now_session_firstOpen now_session_window))) P (gX11 g a_this a_this_now a_this_trial a_this_history a_this_buffer a_this_reader a_this_writing ++ (gX8 g a_this_now a_this_now_dictionary a_this_now_session ++ (gX7 g a_this_now_session a_this_now_session_strokes a_this_now_session_firsts a_this_now_session_entries a_this_now_session_words now_session_strokes now_session_firsts now_session_entries now_session_words now_session_strokeCount now_session_itemCount now_session_fixedCount now_session_firstOpen now_session_window))) := by
  refine Ki0.mk (cc := cX11_strokeAt) (nL := 4) (ty := .int) (by decide +kernel) rfl (Nat.le_of_ble_eq_true rfl) ?_
  intro p e s m below meth c A Q ls F hl V ret
  have hx := F.x
  have hb := F.b
  have hl : lv_has ls 4 [(0, .ref a_this), (1, .int p1), (2, .int p2)] := hl
  have B37 :  ∀ {H : Heap} {locs : List Loc} {ls : Array Slot} (V : VW g A s.heap H locs (gX11 g a_this a_this_now a_this_trial a_this_history a_this_buffer a_this_reader a_this_writing ++ (gX8 g a_this_now a_this_now_dictionary a_this_now_session ++ (gX7 g a_this_now_session a_this_now_session_strokes a_this_now_session_firsts a_this_now_session_entries a_this_now_session_words now_session_strokes now_session_firsts now_session_entries now_session_words now_session_strokeCount now_session_itemCount now_session_fixedCount now_session_firstOpen now_session_window)))) (hl : lv_has ls 4 []) (hw : wX11_strokeAt_37 now_session_strokes now_session_firsts now_session_strokeCount now_session_itemCount p1 p2 P (fun _ => False)), W p l e (kR 6 90 0 0) s m ([.ref a_this, .int p1, .int p2] : List Value).toArray below meth c H locs 0 0 Q (F0 m 37 ls []) := by
    intro  H locs ls  V hl hw
    exact False.elim hw
  have B18 :  ∀ {H : Heap} {locs : List Loc} {ls : Array Slot} (V : VW g A s.heap H locs (gX11 g a_this a_this_now a_this_trial a_this_history a_this_buffer a_this_reader a_this_writing ++ (gX8 g a_this_now a_this_now_dictionary a_this_now_session ++ (gX7 g a_this_now_session a_this_now_session_strokes a_this_now_session_firsts a_this_now_session_entries a_this_now_session_words now_session_strokes now_session_firsts now_session_entries now_session_words now_session_strokeCount now_session_itemCount now_session_fixedCount now_session_firstOpen now_session_window)))) (hl : lv_has ls 4 []) (hw : wX11_strokeAt_18 now_session_strokes now_session_firsts now_session_strokeCount now_session_itemCount p1 p2 P (fun _ => False)), W p l e (kR 6 90 0 0) s m ([.ref a_this, .int p1, .int p2] : List Value).toArray below meth c H locs 0 0 Q (F0 m 18 ls []) := by
    intro  H locs ls  V hl hw
    exact False.elim hw
  refine lv_iload_n hx hb dX11_strokeAt_0 rfl (lv_at hl 1 rfl) ?_
  refine lv_if_lt (tgt := 18) hx hb dX11_strokeAt_1 (by decide) (fun c_1 => ?_) (fun c_1 => ?_)
  · have hw := hw.1 c_1
    exact B18   V (lv_sub hl [] rfl) hw
  · have hw := hw.2 c_1
    refine lv_iload_n hx hb dX11_strokeAt_4 rfl (lv_at hl 1 rfl) ?_
    refine lv_aload_n hx hb dX11_strokeAt_5 rfl (lv_at hl 0 rfl) ?_
    refine kget F V 7 0 0 rfl rfl iX11_strokeAt_X11 fX11_strokeAt_10 (by decide) rfl rfl dX11_strokeAt_6 ?_
    refine kget F V 5 1 1 rfl rfl iX11_strokeAt_X8 fX11_strokeAt_58 (by decide) rfl rfl dX11_strokeAt_9 ?_
    refine kget F V 4 4 2 rfl rfl iX11_strokeAt_X7 fX11_strokeAt_62 (by decide) rfl rfl dX11_strokeAt_12 ?_
    refine lv_icmp_lt (tgt := 28) hx hb dX11_strokeAt_15 (by decide) (fun c_15 => ?_) (fun c_15 => ?_)
    · have hw := hw.1 c_15
      refine lv_iload_n hx hb dX11_strokeAt_28 rfl (lv_at hl 2 rfl) ?_
      refine lv_if_lt (tgt := 37) hx hb dX11_strokeAt_29 (by decide) (fun c_29 => ?_) (fun c_29 => ?_)
      · have hw := hw.1 c_29
        exact B37   V (lv_sub hl [] rfl) hw
      · have hw := hw.2 c_29
        refine lv_iload_n hx hb dX11_strokeAt_32 rfl (lv_at hl 2 rfl) ?_
        refine lv_iconst (v := 3) hx hb dX11_strokeAt_33 (by decide) ?_
        refine lv_icmp_lt (tgt := 47) hx hb dX11_strokeAt_34 (by decide) (fun c_34 => ?_) (fun c_34 => ?_)
        · have hw := hw.1 c_34
          refine lv_aload_n hx hb dX11_strokeAt_47 rfl (lv_at hl 0 rfl) ?_
          refine kget F V 7 0 0 rfl rfl iX11_strokeAt_X11 fX11_strokeAt_10 (by decide) rfl rfl dX11_strokeAt_48 ?_
          refine kget F V 5 1 1 rfl rfl iX11_strokeAt_X8 fX11_strokeAt_58 (by decide) rfl rfl dX11_strokeAt_51 ?_
          refine kget F V 4 0 2 rfl rfl iX11_strokeAt_X7 fX11_strokeAt_86 (by decide) rfl rfl dX11_strokeAt_54 ?_
          refine lv_iload_n hx hb dX11_strokeAt_57 rfl (lv_at hl 1 rfl) ?_
          refine kSi0 (rest := []) F hl V [3] [0, 1, 2, 4, 5, 6] [0, 1, 2, 6, 3, 4, 5] (gX11 g a_this a_this_now a_this_trial a_this_history a_this_buffer a_this_reader a_this_writing ++ (gX8 g a_this_now a_this_now_dictionary a_this_now_session ++ (gX7 g a_this_now_session a_this_now_session_strokes a_this_now_session_firsts a_this_now_session_entries a_this_now_session_words now_session_strokes now_session_firsts now_session_entries now_session_words now_session_strokeCount now_session_itemCount now_session_fixedCount now_session_firstOpen now_session_window))) (kX6_at l g a_this_now_session_strokes 61 now_session_strokes p1 _ hw) gX11_strokeAt_X6_at rfl 2 rfl hdX6_at rfl rfl (fun _ => rfl) rfl rfl rfl (by decide) ⟨Nat.le_of_ble_eq_true rfl, Nat.le_of_ble_eq_true rfl⟩ ⟨Nat.le_of_ble_eq_true rfl, Nat.le_of_ble_eq_true rfl⟩ (Nat.le_of_ble_eq_true rfl) rfl dX11_strokeAt_58 (fun r_58 H locs hw V => ?_)
          refine lv_istore_n (lv' := [(3, .int r_58), (0, .ref a_this), (1, .int p1), (2, .int p2)]) hx hb dX11_strokeAt_61 rfl hl (by decide) rfl (fun ls hl => ?_)
          refine lv_iload_n hx hb dX11_strokeAt_62 rfl (lv_at hl 3 rfl) ?_
          by_cases c_63_0 : p2 = 0
          · have hw := hw.1 c_63_0
            refine lv_lookup (tgt := 88) hx hb dX11_strokeAt_63 (by decide) (by rw [c_63_0]) (by decide) ?_
            refine lv_iload_n hx hb dX11_strokeAt_88 rfl (lv_at hl 0 rfl) ?_
            exact ret _ _ _ _ _ rfl dX11_strokeAt_89 V hw
          by_cases c_63_1 : p2 = 1
          · have hw := hw.2.1 c_63_1
            refine lv_lookup (tgt := 90) hx hb dX11_strokeAt_63 (by decide) (by rw [c_63_1]) (by decide) ?_
            refine lv_iload_n hx hb dX11_strokeAt_90 rfl (lv_at hl 0 rfl) ?_
            refine kSi0n (rest := []) F hl V (kJ6_bitCount_0f7a4 l g r_58 _ hw) gX11_strokeAt_J6_bitCount_0f7a4 rfl 1 rfl hdJ6_bitCount_0f7a4 ⟨Nat.le_of_ble_eq_true rfl, Nat.le_of_ble_eq_true rfl⟩ ⟨Nat.le_of_ble_eq_true rfl, Nat.le_of_ble_eq_true rfl⟩ (Nat.le_of_ble_eq_true rfl) rfl dX11_strokeAt_91 (fun r_91 H locs hw V => ?_)
            exact ret _ _ _ _ _ rfl dX11_strokeAt_94 V hw
          have hw := hw.2.2 c_63_0 c_63_1
          have i_0 : ¬ (0 : Int) = (p2).toInt := fun q => c_63_0 (Int32.toInt_inj.mp (by rw [← q]; rfl))
          have i_1 : ¬ (1 : Int) = (p2).toInt := fun q => c_63_1 (Int32.toInt_inj.mp (by rw [← q]; rfl))
          refine lv_lookup (tgt := 95) hx hb dX11_strokeAt_63 (by decide) (by show (if (0 : Int) = (p2).toInt then 25 else if (1 : Int) = (p2).toInt then 27 else 32) = _; rw [if_neg i_0, if_neg i_1]) (by decide) ?_
          refine lv_aload_n hx hb dX11_strokeAt_95 rfl (lv_at hl 1 rfl) ?_
          refine kget F V 7 0 0 rfl rfl iX11_strokeAt_X11 fX11_strokeAt_10 (by decide) rfl rfl dX11_strokeAt_96 ?_
          refine kget F V 5 1 1 rfl rfl iX11_strokeAt_X8 fX11_strokeAt_58 (by decide) rfl rfl dX11_strokeAt_99 ?_
          refine lv_iload_n hx hb dX11_strokeAt_102 rfl (lv_at hl 2 rfl) ?_
          refine kVi0 (rest := []) F hl V [2, 3, 4, 5, 6] [0, 1] [0, 1, 2, 3, 4, 5, 6] (gX11 g a_this a_this_now a_this_trial a_this_history a_this_buffer a_this_reader a_this_writing ++ (gX8 g a_this_now a_this_now_dictionary a_this_now_session ++ (gX7 g a_this_now_session a_this_now_session_strokes a_this_now_session_firsts a_this_now_session_entries a_this_now_session_words now_session_strokes now_session_firsts now_session_entries now_session_words now_session_strokeCount now_session_itemCount now_session_fixedCount now_session_firstOpen now_session_window))) a_this_now_session 4 2 rfl rfl (kX7_itemWith l g a_this_now_session a_this_now_session_strokes a_this_now_session_firsts a_this_now_session_entries a_this_now_session_words now_session_strokes now_session_firsts now_session_entries now_session_words now_session_strokeCount now_session_itemCount now_session_fixedCount now_session_firstOpen now_session_window p1 _ hw) gX11_strokeAt_X7_itemWith rfl 1 rfl hdX7_itemWith rfl rfl (fun _ => rfl) rfl rfl rfl (by decide) ⟨Nat.le_of_ble_eq_true rfl, Nat.le_of_ble_eq_true rfl⟩ ⟨Nat.le_of_ble_eq_true rfl, Nat.le_of_ble_eq_true rfl⟩ (Nat.le_of_ble_eq_true rfl) rfl dX11_strokeAt_103 (fun r_103 H locs hw V => ?_)
          exact ret _ _ _ _ _ rfl dX11_strokeAt_106 V hw
        · have hw := hw.2 c_34
          exact B37   V (lv_sub hl [] rfl) hw
    · have hw := hw.2 c_15
      exact B18   V (lv_sub hl [] rfl) hw
theorem hdX7_strokesOf : yX7_strokesOf.cls = RX7 ∧ yX7_strokesOf.cls ≠ "java/lang/invoke/MethodHandle" ∧ yX7_strokesOf.cls ≠ "java/lang/invoke/VarHandle" ∧ (parseMethodDescriptor yX7_strokesOf.desc).map (fun d => d.parameters.length) = some 1 := by decide +kernel
def wX7_strokesOf (firsts : Nat → Int32) (strokeCount : Int32) (itemCount : Int32) (p1 : Int32) (P : Int32 → Prop) : Prop := wX7_firstOf firsts strokeCount itemCount (p1 + 1) (fun r_4 => wX7_firstOf firsts strokeCount itemCount p1 (fun r_9 => P (r_4 - r_9)))
set_option maxHeartbeats 4000000 in
set_option maxRecDepth 100000 in
theorem kX7_strokesOf (l : Launch) (g : kT) (a_this : Nat) (a_this_strokes : Nat) (a_this_firsts : Nat) (a_this_entries : Nat) (a_this_words : Nat) (strokes : Nat → Int32) (firsts : Nat → Int32) (entries : Nat → Int32) (words : Nat → Int64) (strokeCount : Int32) (itemCount : Int32) (fixedCount : Int32) (firstOpen : Int32) (window : Int32) (p1 : Int32) (P : Int32 → Prop) (hw : wX7_strokesOf firsts strokeCount itemCount p1 P) : Ki0 l g yX7_strokesOf wsX7_strokesOf 2 42 0 0 [.ref a_this, .int p1] (gX7 g a_this a_this_strokes a_this_firsts a_this_entries a_this_words strokes firsts entries words strokeCount itemCount fixedCount firstOpen window) P (gX7 g a_this a_this_strokes a_this_firsts a_this_entries a_this_words strokes firsts entries words strokeCount itemCount fixedCount firstOpen window) := by
  refine Ki0.mk (cc := cX7_strokesOf) (nL := 2) (ty := .int) (by decide +kernel) rfl (Nat.le_of_ble_eq_true rfl) ?_
  intro p e s m below meth c A Q ls F hl V ret
  have hx := F.x
  have hb := F.b
  have hl : lv_has ls 2 [(0, .ref a_this), (1, .int p1)] := hl
  refine lv_aload_n hx hb dX7_strokesOf_0 rfl (lv_at hl 0 rfl) ?_
  refine lv_iload_n hx hb dX7_strokesOf_1 rfl (lv_at hl 1 rfl) ?_
  refine lv_iconst (v := 1) hx hb dX7_strokesOf_2 (by decide) ?_
  refine lv_iadd hx hb dX7_strokesOf_3 ?_
  refine kVi0 (rest := []) F hl V [0, 1, 2, 3, 4] [] [0, 1, 2, 3, 4] (gX7 g a_this a_this_strokes a_this_firsts a_this_entries a_this_words strokes firsts entries words strokeCount itemCount fixedCount firstOpen window) a_this 4 0 rfl rfl (kX7_firstOf l g a_this a_this_strokes a_this_firsts a_this_entries a_this_words strokes firsts entries words strokeCount itemCount fixedCount firstOpen window (p1 + 1) _ hw) gX7_strokesOf_X7_firstOf rfl 1 rfl hdX7_firstOf rfl rfl (fun _ => rfl) rfl rfl rfl (by decide) ⟨Nat.le_of_ble_eq_true rfl, Nat.le_of_ble_eq_true rfl⟩ ⟨Nat.le_of_ble_eq_true rfl, Nat.le_of_ble_eq_true rfl⟩ (Nat.le_of_ble_eq_true rfl) rfl dX7_strokesOf_4 (fun r_4 H locs hw V => ?_)
  refine lv_aload_n hx hb dX7_strokesOf_7 rfl (lv_at hl 0 rfl) ?_
  refine lv_iload_n hx hb dX7_strokesOf_8 rfl (lv_at hl 1 rfl) ?_
  refine kVi0 (rest := [.int r_4]) F hl V [0, 1, 2, 3, 4] [] [0, 1, 2, 3, 4] (gX7 g a_this a_this_strokes a_this_firsts a_this_entries a_this_words strokes firsts entries words strokeCount itemCount fixedCount firstOpen window) a_this 4 0 rfl rfl (kX7_firstOf l g a_this a_this_strokes a_this_firsts a_this_entries a_this_words strokes firsts entries words strokeCount itemCount fixedCount firstOpen window p1 _ hw) gX7_strokesOf_X7_firstOf rfl 1 rfl hdX7_firstOf rfl rfl (fun _ => rfl) rfl rfl rfl (by decide) ⟨Nat.le_of_ble_eq_true rfl, Nat.le_of_ble_eq_true rfl⟩ ⟨Nat.le_of_ble_eq_true rfl, Nat.le_of_ble_eq_true rfl⟩ (Nat.le_of_ble_eq_true rfl) rfl dX7_strokesOf_9 (fun r_9 H locs hw V => ?_)
  refine lv_isub hx hb dX7_strokesOf_12 ?_
  exact ret _ _ _ _ _ rfl dX7_strokesOf_13 V hw
theorem hdX11_item : yX11_item.cls = RX11 ∧ yX11_item.cls ≠ "java/lang/invoke/MethodHandle" ∧ yX11_item.cls ≠ "java/lang/invoke/VarHandle" ∧ (parseMethodDescriptor yX11_item.desc).map (fun d => d.parameters.length) = some 2 := by decide +kernel
theorem fX11_item_10 : Cond.fieldLink RX11 10 RX11 "now" "LChordDesk$State;" ∈ wsX11_item := by decide +kernel
theorem iX11_item_X11 : ∀ w ∈ u_ws RX11 TX11 6, w ∈ wsX11_item := by decide +kernel
theorem fX11_item_58 : Cond.fieldLink RX11 58 RX8 "session" "LChordDesk$Session;" ∈ wsX11_item := by decide +kernel
theorem iX11_item_X8 : ∀ w ∈ u_ws RX8 TX8 2, w ∈ wsX11_item := by decide +kernel
theorem fX11_item_236 : Cond.fieldLink RX11 236 RX7 "entries" "[I" ∈ wsX11_item := by decide +kernel
theorem iX11_item_X7 : ∀ w ∈ u_ws RX7 TX7 9, w ∈ wsX11_item := by decide +kernel
theorem fX11_item_239 : Cond.fieldLink RX11 239 RX7 "fixedCount" "I" ∈ wsX11_item := by decide +kernel
def wX11_item_41 (now_session_strokes : Nat → Int32) (now_session_firsts : Nat → Int32) (now_session_entries : Nat → Int32) (now_session_words : Nat → Int64) (now_session_strokeCount : Int32) (now_session_itemCount : Int32) (now_session_fixedCount : Int32) (p1 : Int32) (p2 : Int32) (P : Int32 → Prop) (X : String → Prop) : Prop := X "java/lang/IllegalArgumentException"
def wX11_item (now_session_strokes : Nat → Int32) (now_session_firsts : Nat → Int32) (now_session_entries : Nat → Int32) (now_session_words : Nat → Int64) (now_session_strokeCount : Int32) (now_session_itemCount : Int32) (now_session_fixedCount : Int32) (p1 : Int32) (p2 : Int32) (P : Int32 → Prop) (X : String → Prop) : Prop := wX11_isItem now_session_itemCount p1 (fun r_2 => (¬ r_2 = 0 → wX7_lettersOf now_session_strokes now_session_firsts now_session_words now_session_strokeCount now_session_itemCount p1 (fun r_26 => (p2 < 0 → wX11_item_41 now_session_strokes now_session_firsts now_session_entries now_session_words now_session_strokeCount now_session_itemCount now_session_fixedCount p1 p2 P X) ∧ (¬ (p2 < 0) → (p2 < (5 + r_26) → (p2 = 0 → wX7_firstOf now_session_firsts now_session_strokeCount now_session_itemCount p1 (fun r_96 => P r_96)) ∧ (p2 = 1 → wX7_strokesOf now_session_firsts now_session_strokeCount now_session_itemCount p1 (fun r_108 => P r_108)) ∧ (p2 = 2 → wX6_at 61 now_session_entries p1 (fun r_123 => P r_123)) ∧ (p2 = 3 → (now_session_fixedCount ≤ p1 → P 0) ∧ (¬ (now_session_fixedCount ≤ p1) → P 1)) ∧ (p2 = 4 → P r_26) ∧ (¬ p2 = 0 → ¬ p2 = 1 → ¬ p2 = 2 → ¬ p2 = 3 → ¬ p2 = 4 → wX7_letterOf now_session_strokes now_session_firsts now_session_words now_session_strokeCount now_session_itemCount p1 (p2 - 5) (fun r_160 => P r_160))) ∧ (¬ (p2 < (5 + r_26)) → wX11_item_41 now_session_strokes now_session_firsts now_session_entries now_session_words now_session_strokeCount now_session_itemCount now_session_fixedCount p1 p2 P X)))) ∧ (r_2 = 0 → X "java/lang/IndexOutOfBoundsException"))
set_option maxHeartbeats 4000000 in
set_option maxRecDepth 100000 in
theorem kX11_item (l : Launch) (g : kT) (a_this : Nat) (a_this_now : Nat) (a_this_trial : Nat) (a_this_history : Nat) (a_this_buffer : Nat) (a_this_reader : Nat) (a_this_writing : Nat) (a_this_now_dictionary : Nat) (a_this_now_session : Nat) (a_this_now_session_strokes : Nat) (a_this_now_session_firsts : Nat) (a_this_now_session_entries : Nat) (a_this_now_session_words : Nat) (now_session_strokes : Nat → Int32) (now_session_firsts : Nat → Int32) (now_session_entries : Nat → Int32) (now_session_words : Nat → Int64) (now_session_strokeCount : Int32) (now_session_itemCount : Int32) (now_session_fixedCount : Int32) (now_session_firstOpen : Int32) (now_session_window : Int32) (p1 : Int32) (p2 : Int32) (P : Int32 → Prop) (hw : wX11_item now_session_strokes now_session_firsts now_session_entries now_session_words now_session_strokeCount now_session_itemCount now_session_fixedCount p1 p2 P (fun _ => False)) : Ki0 l g yX11_item wsX11_item 6 90 0 0 [.ref a_this, .int p1, .int p2] (gX11 g a_this a_this_now a_this_trial a_this_history a_this_buffer a_this_reader a_this_writing ++ (gX8 g a_this_now a_this_now_dictionary a_this_now_session ++ (gX7 g a_this_now_session a_this_now_session_strokes a_this_now_session_firsts a_this_now_session_entries a_this_now_session_words now_session_strokes now_session_firsts now_session_entries now_session_words now_session_strokeCount now_session_itemCount now_session_fixedCount now_session_firstOpen now_session_window))) P (gX11 g a_this a_this_now a_this_trial a_this_history a_this_buffer a_this_reader a_this_writing ++ (gX8 g a_this_now a_this_now_dictionary a_this_now_session ++ (gX7 g a_this_now_session a_this_now_session_strokes a_this_now_session_firsts a_this_now_session_entries a_this_now_session_words now_session_strokes now_session_firsts now_session_entries now_session_words now_session_strokeCount now_session_itemCount now_session_fixedCount now_session_firstOpen now_session_window))) := by
  refine Ki0.mk (cc := cX11_item) (nL := 4) (ty := .int) (by decide +kernel) rfl (Nat.le_of_ble_eq_true rfl) ?_
  intro p e s m below meth c A Q ls F hl V ret
  have hx := F.x
  have hb := F.b
  have hl : lv_has ls 4 [(0, .ref a_this), (1, .int p1), (2, .int p2)] := hl
  have B41 :  ∀ {H : Heap} {locs : List Loc} {ls : Array Slot} (V : VW g A s.heap H locs (gX11 g a_this a_this_now a_this_trial a_this_history a_this_buffer a_this_reader a_this_writing ++ (gX8 g a_this_now a_this_now_dictionary a_this_now_session ++ (gX7 g a_this_now_session a_this_now_session_strokes a_this_now_session_firsts a_this_now_session_entries a_this_now_session_words now_session_strokes now_session_firsts now_session_entries now_session_words now_session_strokeCount now_session_itemCount now_session_fixedCount now_session_firstOpen now_session_window)))) (hl : lv_has ls 4 []) (hw : wX11_item_41 now_session_strokes now_session_firsts now_session_entries now_session_words now_session_strokeCount now_session_itemCount now_session_fixedCount p1 p2 P (fun _ => False)), W p l e (kR 6 90 0 0) s m ([.ref a_this, .int p1, .int p2] : List Value).toArray below meth c H locs 0 0 Q (F0 m 41 ls []) := by
    intro  H locs ls  V hl hw
    exact False.elim hw
  refine lv_aload_n hx hb dX11_item_0 rfl (lv_at hl 0 rfl) ?_
  refine lv_iload_n hx hb dX11_item_1 rfl (lv_at hl 1 rfl) ?_
  refine kVi0 (rest := []) F hl V [0, 1, 2, 3, 4, 5, 6] [] [0, 1, 2, 3, 4, 5, 6] (gX11 g a_this a_this_now a_this_trial a_this_history a_this_buffer a_this_reader a_this_writing ++ (gX8 g a_this_now a_this_now_dictionary a_this_now_session ++ (gX7 g a_this_now_session a_this_now_session_strokes a_this_now_session_firsts a_this_now_session_entries a_this_now_session_words now_session_strokes now_session_firsts now_session_entries now_session_words now_session_strokeCount now_session_itemCount now_session_fixedCount now_session_firstOpen now_session_window))) a_this 7 0 rfl rfl (kX11_isItem l g a_this a_this_now a_this_trial a_this_history a_this_buffer a_this_reader a_this_writing a_this_now_dictionary a_this_now_session a_this_now_session_strokes a_this_now_session_firsts a_this_now_session_entries a_this_now_session_words now_session_strokes now_session_firsts now_session_entries now_session_words now_session_strokeCount now_session_itemCount now_session_fixedCount now_session_firstOpen now_session_window p1 _ hw) gX11_item_X11_isItem rfl 1 rfl hdX11_isItem rfl rfl (fun _ => rfl) rfl rfl rfl (by decide) ⟨Nat.le_of_ble_eq_true rfl, Nat.le_of_ble_eq_true rfl⟩ ⟨Nat.le_of_ble_eq_true rfl, Nat.le_of_ble_eq_true rfl⟩ (Nat.le_of_ble_eq_true rfl) rfl dX11_item_2 (fun r_2 H locs hw V => ?_)
  refine lv_if_ne (tgt := 18) hx hb dX11_item_5 (by decide) (fun c_5 => ?_) (fun c_5 => ?_)
  · have hw := hw.1 c_5
    refine lv_aload_n hx hb dX11_item_18 rfl (lv_at hl 0 rfl) ?_
    refine kget F V 7 0 0 rfl rfl iX11_item_X11 fX11_item_10 (by decide) rfl rfl dX11_item_19 ?_
    refine kget F V 5 1 1 rfl rfl iX11_item_X8 fX11_item_58 (by decide) rfl rfl dX11_item_22 ?_
    refine lv_iload_n hx hb dX11_item_25 rfl (lv_at hl 1 rfl) ?_
    refine kVi0 (rest := []) F hl V [2, 3, 4, 5, 6] [0, 1] [0, 1, 2, 3, 4, 5, 6] (gX11 g a_this a_this_now a_this_trial a_this_history a_this_buffer a_this_reader a_this_writing ++ (gX8 g a_this_now a_this_now_dictionary a_this_now_session ++ (gX7 g a_this_now_session a_this_now_session_strokes a_this_now_session_firsts a_this_now_session_entries a_this_now_session_words now_session_strokes now_session_firsts now_session_entries now_session_words now_session_strokeCount now_session_itemCount now_session_fixedCount now_session_firstOpen now_session_window))) a_this_now_session 4 2 rfl rfl (kX7_lettersOf l g a_this_now_session a_this_now_session_strokes a_this_now_session_firsts a_this_now_session_entries a_this_now_session_words now_session_strokes now_session_firsts now_session_entries now_session_words now_session_strokeCount now_session_itemCount now_session_fixedCount now_session_firstOpen now_session_window p1 _ hw) gX11_item_X7_lettersOf rfl 1 rfl hdX7_lettersOf rfl rfl (fun _ => rfl) rfl rfl rfl (by decide) ⟨Nat.le_of_ble_eq_true rfl, Nat.le_of_ble_eq_true rfl⟩ ⟨Nat.le_of_ble_eq_true rfl, Nat.le_of_ble_eq_true rfl⟩ (Nat.le_of_ble_eq_true rfl) rfl dX11_item_26 (fun r_26 H locs hw V => ?_)
    refine lv_istore_n (lv' := [(3, .int r_26), (0, .ref a_this), (1, .int p1), (2, .int p2)]) hx hb dX11_item_29 rfl hl (by decide) rfl (fun ls hl => ?_)
    refine lv_iload_n hx hb dX11_item_30 rfl (lv_at hl 3 rfl) ?_
    refine lv_if_lt (tgt := 41) hx hb dX11_item_31 (by decide) (fun c_31 => ?_) (fun c_31 => ?_)
    · have hw := hw.1 c_31
      exact B41   V (lv_sub hl [] rfl) hw
    · have hw := hw.2 c_31
      refine lv_iload_n hx hb dX11_item_34 rfl (lv_at hl 3 rfl) ?_
      refine lv_iconst (v := 5) hx hb dX11_item_35 (by decide) ?_
      refine lv_iload_n hx hb dX11_item_36 rfl (lv_at hl 0 rfl) ?_
      refine lv_iadd hx hb dX11_item_37 ?_
      refine lv_icmp_lt (tgt := 51) hx hb dX11_item_38 (by decide) (fun c_38 => ?_) (fun c_38 => ?_)
      · have hw := hw.1 c_38
        refine lv_iload_n hx hb dX11_item_51 rfl (lv_at hl 3 rfl) ?_
        by_cases c_52_0 : p2 = 0
        · have hw := hw.1 c_52_0
          refine lv_tableIn (tgt := 88) hx hb dX11_item_52 (by rw [c_52_0]; decide) (by rw [c_52_0]; decide) (by rw [c_52_0]; rfl) (by decide) ?_
          refine lv_aload_n hx hb dX11_item_88 rfl (lv_at hl 1 rfl) ?_
          refine kget F V 7 0 0 rfl rfl iX11_item_X11 fX11_item_10 (by decide) rfl rfl dX11_item_89 ?_
          refine kget F V 5 1 1 rfl rfl iX11_item_X8 fX11_item_58 (by decide) rfl rfl dX11_item_92 ?_
          refine lv_iload_n hx hb dX11_item_95 rfl (lv_at hl 2 rfl) ?_
          refine kVi0 (rest := []) F hl V [2, 3, 4, 5, 6] [0, 1] [0, 1, 2, 3, 4, 5, 6] (gX11 g a_this a_this_now a_this_trial a_this_history a_this_buffer a_this_reader a_this_writing ++ (gX8 g a_this_now a_this_now_dictionary a_this_now_session ++ (gX7 g a_this_now_session a_this_now_session_strokes a_this_now_session_firsts a_this_now_session_entries a_this_now_session_words now_session_strokes now_session_firsts now_session_entries now_session_words now_session_strokeCount now_session_itemCount now_session_fixedCount now_session_firstOpen now_session_window))) a_this_now_session 4 2 rfl rfl (kX7_firstOf l g a_this_now_session a_this_now_session_strokes a_this_now_session_firsts a_this_now_session_entries a_this_now_session_words now_session_strokes now_session_firsts now_session_entries now_session_words now_session_strokeCount now_session_itemCount now_session_fixedCount now_session_firstOpen now_session_window p1 _ hw) gX11_item_X7_firstOf rfl 1 rfl hdX7_firstOf rfl rfl (fun _ => rfl) rfl rfl rfl (by decide) ⟨Nat.le_of_ble_eq_true rfl, Nat.le_of_ble_eq_true rfl⟩ ⟨Nat.le_of_ble_eq_true rfl, Nat.le_of_ble_eq_true rfl⟩ (Nat.le_of_ble_eq_true rfl) rfl dX11_item_96 (fun r_96 H locs hw V => ?_)
          exact ret _ _ _ _ _ rfl dX11_item_99 V hw
        by_cases c_52_1 : p2 = 1
        · have hw := hw.2.1 c_52_1
          refine lv_tableIn (tgt := 100) hx hb dX11_item_52 (by rw [c_52_1]; decide) (by rw [c_52_1]; decide) (by rw [c_52_1]; rfl) (by decide) ?_
          refine lv_aload_n hx hb dX11_item_100 rfl (lv_at hl 1 rfl) ?_
          refine kget F V 7 0 0 rfl rfl iX11_item_X11 fX11_item_10 (by decide) rfl rfl dX11_item_101 ?_
          refine kget F V 5 1 1 rfl rfl iX11_item_X8 fX11_item_58 (by decide) rfl rfl dX11_item_104 ?_
          refine lv_iload_n hx hb dX11_item_107 rfl (lv_at hl 2 rfl) ?_
          refine kVi0 (rest := []) F hl V [2, 3, 4, 5, 6] [0, 1] [0, 1, 2, 3, 4, 5, 6] (gX11 g a_this a_this_now a_this_trial a_this_history a_this_buffer a_this_reader a_this_writing ++ (gX8 g a_this_now a_this_now_dictionary a_this_now_session ++ (gX7 g a_this_now_session a_this_now_session_strokes a_this_now_session_firsts a_this_now_session_entries a_this_now_session_words now_session_strokes now_session_firsts now_session_entries now_session_words now_session_strokeCount now_session_itemCount now_session_fixedCount now_session_firstOpen now_session_window))) a_this_now_session 4 2 rfl rfl (kX7_strokesOf l g a_this_now_session a_this_now_session_strokes a_this_now_session_firsts a_this_now_session_entries a_this_now_session_words now_session_strokes now_session_firsts now_session_entries now_session_words now_session_strokeCount now_session_itemCount now_session_fixedCount now_session_firstOpen now_session_window p1 _ hw) gX11_item_X7_strokesOf rfl 1 rfl hdX7_strokesOf rfl rfl (fun _ => rfl) rfl rfl rfl (by decide) ⟨Nat.le_of_ble_eq_true rfl, Nat.le_of_ble_eq_true rfl⟩ ⟨Nat.le_of_ble_eq_true rfl, Nat.le_of_ble_eq_true rfl⟩ (Nat.le_of_ble_eq_true rfl) rfl dX11_item_108 (fun r_108 H locs hw V => ?_)
          exact ret _ _ _ _ _ rfl dX11_item_111 V hw
        by_cases c_52_2 : p2 = 2
        · have hw := hw.2.2.1 c_52_2
          refine lv_tableIn (tgt := 112) hx hb dX11_item_52 (by rw [c_52_2]; decide) (by rw [c_52_2]; decide) (by rw [c_52_2]; rfl) (by decide) ?_
          refine lv_aload_n hx hb dX11_item_112 rfl (lv_at hl 1 rfl) ?_
          refine kget F V 7 0 0 rfl rfl iX11_item_X11 fX11_item_10 (by decide) rfl rfl dX11_item_113 ?_
          refine kget F V 5 1 1 rfl rfl iX11_item_X8 fX11_item_58 (by decide) rfl rfl dX11_item_116 ?_
          refine kget F V 4 2 2 rfl rfl iX11_item_X7 fX11_item_236 (by decide) rfl rfl dX11_item_119 ?_
          refine lv_iload_n hx hb dX11_item_122 rfl (lv_at hl 2 rfl) ?_
          refine kSi0 (rest := []) F hl V [5] [0, 1, 2, 3, 4, 6] [0, 1, 2, 3, 4, 6, 5] (gX11 g a_this a_this_now a_this_trial a_this_history a_this_buffer a_this_reader a_this_writing ++ (gX8 g a_this_now a_this_now_dictionary a_this_now_session ++ (gX7 g a_this_now_session a_this_now_session_strokes a_this_now_session_firsts a_this_now_session_entries a_this_now_session_words now_session_strokes now_session_firsts now_session_entries now_session_words now_session_strokeCount now_session_itemCount now_session_fixedCount now_session_firstOpen now_session_window))) (kX6_at l g a_this_now_session_entries 61 now_session_entries p1 _ hw) gX11_item_X6_at rfl 2 rfl hdX6_at rfl rfl (fun _ => rfl) rfl rfl rfl (by decide) ⟨Nat.le_of_ble_eq_true rfl, Nat.le_of_ble_eq_true rfl⟩ ⟨Nat.le_of_ble_eq_true rfl, Nat.le_of_ble_eq_true rfl⟩ (Nat.le_of_ble_eq_true rfl) rfl dX11_item_123 (fun r_123 H locs hw V => ?_)
          exact ret _ _ _ _ _ rfl dX11_item_126 V hw
        by_cases c_52_3 : p2 = 3
        · have hw := hw.2.2.2.1 c_52_3
          refine lv_tableIn (tgt := 127) hx hb dX11_item_52 (by rw [c_52_3]; decide) (by rw [c_52_3]; decide) (by rw [c_52_3]; rfl) (by decide) ?_
          refine lv_iload_n hx hb dX11_item_127 rfl (lv_at hl 2 rfl) ?_
          refine lv_aload_n hx hb dX11_item_128 rfl (lv_at hl 1 rfl) ?_
          refine kget F V 7 0 0 rfl rfl iX11_item_X11 fX11_item_10 (by decide) rfl rfl dX11_item_129 ?_
          refine kget F V 5 1 1 rfl rfl iX11_item_X8 fX11_item_58 (by decide) rfl rfl dX11_item_132 ?_
          refine kget F V 4 6 2 rfl rfl iX11_item_X7 fX11_item_239 (by decide) rfl rfl dX11_item_135 ?_
          refine lv_icmp_ge (tgt := 145) hx hb dX11_item_138 (by decide) (fun c_138 => ?_) (fun c_138 => ?_)
          · have hw := hw.1 c_138
            refine lv_iconst (v := 0) hx hb dX11_item_145 (by decide) ?_
            exact ret _ _ _ _ _ rfl dX11_item_146 V hw
          · have hw := hw.2 c_138
            refine lv_iconst (v := 1) hx hb dX11_item_141 (by decide) ?_
            refine lv_goto (tgt := 146) hx hb dX11_item_142 (by decide) ?_
            exact ret _ _ _ _ _ rfl dX11_item_146 V hw
        by_cases c_52_4 : p2 = 4
        · have hw := hw.2.2.2.2.1 c_52_4
          refine lv_tableIn (tgt := 147) hx hb dX11_item_52 (by rw [c_52_4]; decide) (by rw [c_52_4]; decide) (by rw [c_52_4]; rfl) (by decide) ?_
          refine lv_iload_n hx hb dX11_item_147 rfl (lv_at hl 0 rfl) ?_
          exact ret _ _ _ _ _ rfl dX11_item_148 V hw
        have hw := hw.2.2.2.2.2 c_52_0 c_52_1 c_52_2 c_52_3 c_52_4
        refine lv_tableOut (tgt := 149) hx hb dX11_item_52 (by have i_0 : ¬ (p2).toInt = 0 := fun q => c_52_0 (Int32.toInt_inj.mp (by rw [q]; rfl)); have i_1 : ¬ (p2).toInt = 1 := fun q => c_52_1 (Int32.toInt_inj.mp (by rw [q]; rfl)); have i_2 : ¬ (p2).toInt = 2 := fun q => c_52_2 (Int32.toInt_inj.mp (by rw [q]; rfl)); have i_3 : ¬ (p2).toInt = 3 := fun q => c_52_3 (Int32.toInt_inj.mp (by rw [q]; rfl)); have i_4 : ¬ (p2).toInt = 4 := fun q => c_52_4 (Int32.toInt_inj.mp (by rw [q]; rfl)); omega) (by decide) ?_
        refine lv_aload_n hx hb dX11_item_149 rfl (lv_at hl 1 rfl) ?_
        refine kget F V 7 0 0 rfl rfl iX11_item_X11 fX11_item_10 (by decide) rfl rfl dX11_item_150 ?_
        refine kget F V 5 1 1 rfl rfl iX11_item_X8 fX11_item_58 (by decide) rfl rfl dX11_item_153 ?_
        refine lv_iload_n hx hb dX11_item_156 rfl (lv_at hl 2 rfl) ?_
        refine lv_iload_n hx hb dX11_item_157 rfl (lv_at hl 3 rfl) ?_
        refine lv_iconst (v := 5) hx hb dX11_item_158 (by decide) ?_
        refine lv_isub hx hb dX11_item_159 ?_
        refine kVi0 (rest := []) F hl V [2, 3, 4, 5, 6] [0, 1] [0, 1, 2, 3, 4, 5, 6] (gX11 g a_this a_this_now a_this_trial a_this_history a_this_buffer a_this_reader a_this_writing ++ (gX8 g a_this_now a_this_now_dictionary a_this_now_session ++ (gX7 g a_this_now_session a_this_now_session_strokes a_this_now_session_firsts a_this_now_session_entries a_this_now_session_words now_session_strokes now_session_firsts now_session_entries now_session_words now_session_strokeCount now_session_itemCount now_session_fixedCount now_session_firstOpen now_session_window))) a_this_now_session 4 2 rfl rfl (kX7_letterOf l g a_this_now_session a_this_now_session_strokes a_this_now_session_firsts a_this_now_session_entries a_this_now_session_words now_session_strokes now_session_firsts now_session_entries now_session_words now_session_strokeCount now_session_itemCount now_session_fixedCount now_session_firstOpen now_session_window p1 (p2 - 5) _ hw) gX11_item_X7_letterOf rfl 2 rfl hdX7_letterOf rfl rfl (fun _ => rfl) rfl rfl rfl (by decide) ⟨Nat.le_of_ble_eq_true rfl, Nat.le_of_ble_eq_true rfl⟩ ⟨Nat.le_of_ble_eq_true rfl, Nat.le_of_ble_eq_true rfl⟩ (Nat.le_of_ble_eq_true rfl) rfl dX11_item_160 (fun r_160 H locs hw V => ?_)
        exact ret _ _ _ _ _ rfl dX11_item_163 V hw
      · have hw := hw.2 c_38
        exact B41   V (lv_sub hl [] rfl) hw
  · have hw := hw.2 c_5
    exact False.elim hw
theorem hdX11_noneForZero : yX11_noneForZero.cls ≠ "java/lang/invoke/MethodHandle" ∧ yX11_noneForZero.cls ≠ "java/lang/invoke/VarHandle" ∧ (parseMethodDescriptor yX11_noneForZero.desc).map (fun d => d.parameters.length) = some 1 := by decide +kernel
def wX11_noneForZero (p1 : Int32) (P : Int32 → Prop) : Prop := (¬ p1 = 0 → P p1) ∧ (p1 = 0 → P (-1))
set_option maxHeartbeats 4000000 in
set_option maxRecDepth 100000 in
theorem kX11_noneForZero (l : Launch) (g : kT) (p1 : Int32) (P : Int32 → Prop) (hw : wX11_noneForZero p1 P) : Ki0 l g yX11_noneForZero wsX11_noneForZero 0 0 0 0 [.int p1] [] P [] := by
  refine Ki0.mk (cc := cX11_noneForZero) (nL := 1) (ty := .int) (by decide +kernel) rfl (Nat.le_of_ble_eq_true rfl) ?_
  intro p e s m below meth c A Q ls F hl V ret
  have hx := F.x
  have hb := F.b
  have hl : lv_has ls 1 [(0, .int p1)] := hl
  refine lv_iload_n hx hb dX11_noneForZero_0 rfl (lv_at hl 0 rfl) ?_
  refine lv_if_ne (tgt := 8) hx hb dX11_noneForZero_1 (by decide) (fun c_1 => ?_) (fun c_1 => ?_)
  · have hw := hw.1 c_1
    refine lv_iload_n hx hb dX11_noneForZero_8 rfl (lv_at hl 0 rfl) ?_
    exact ret _ _ _ _ _ rfl dX11_noneForZero_9 V hw
  · have hw := hw.2 c_1
    refine lv_iconst (v := (-1)) hx hb dX11_noneForZero_4 (by decide) ?_
    refine lv_goto (tgt := 9) hx hb dX11_noneForZero_5 (by decide) ?_
    exact ret _ _ _ _ _ rfl dX11_noneForZero_9 V hw
theorem hdX1_beginsLonger : yX1_beginsLonger.cls = RX1 ∧ yX1_beginsLonger.cls ≠ "java/lang/invoke/MethodHandle" ∧ yX1_beginsLonger.cls ≠ "java/lang/invoke/VarHandle" ∧ (parseMethodDescriptor yX1_beginsLonger.desc).map (fun d => d.parameters.length) = some 1 := by decide +kernel
theorem fX1_beginsLonger_18 : Cond.fieldLink RX1 18 RX1 "size" "I" ∈ wsX1_beginsLonger := by decide +kernel
theorem iX1_beginsLonger_X1 : ∀ w ∈ u_ws RX1 TX1 3, w ∈ wsX1_beginsLonger := by decide +kernel
def wX1_beginsLonger_45 (outlines : Nat → Int64) (size : Int32) (p1 : Int64) (K8 : Int32 → Int32 → Prop) (P : Int32 → Prop) (v3 : Int32) (v4 : Int32) : Prop := K8 v3 (v4 + 1)
def wX1_beginsLonger_8 (outlines : Nat → Int64) (size : Int32) (p1 : Int64) (P : Int32 → Prop) : Nat → Int32 → Int32 → Prop
  | 0, _, _ => False
  | n + 1, v3, v4 => (size ≤ v4 → P 0) ∧ (¬ (size ≤ v4) → wX1_outlineOf outlines v4 (fun r_20 => ((lg_cmp r_20 p1) = 0 → wX1_beginsLonger_45 outlines size p1 (wX1_beginsLonger_8 outlines size p1 P n) P v3 v4) ∧ (¬ ((lg_cmp r_20 p1) = 0) → wX5_beginning r_20 v3 (fun r_35 => (¬ (lg_cmp r_35 p1) = 0 → wX1_beginsLonger_45 outlines size p1 (wX1_beginsLonger_8 outlines size p1 P n) P v3 v4) ∧ ((lg_cmp r_35 p1) = 0 → P 1)))))
def wX1_beginsLonger (outlines : Nat → Int64) (size : Int32) (p1 : Int64) (P : Int32 → Prop) : Prop := wX5_length p1 (fun r_1 => ∃ n_8, wX1_beginsLonger_8 outlines size p1 P n_8 r_1 0)
set_option maxHeartbeats 4000000 in
set_option maxRecDepth 100000 in
theorem kX1_beginsLonger (l : Launch) (g : kT) (a_this : Nat) (a_this_outlines : Nat) (a_this_words : Nat) (outlines : Nat → Int64) (words : Nat → Int64) (size : Int32) (p1 : Int64) (P : Int32 → Prop) (hw : wX1_beginsLonger outlines size p1 P) : Ki0 l g yX1_beginsLonger wsX1_beginsLonger 2 45 0 0 [.ref a_this, .long p1] (gX1 g a_this a_this_outlines a_this_words outlines words size) P (gX1 g a_this a_this_outlines a_this_words outlines words size) := by
  refine Ki0.mk (cc := cX1_beginsLonger) (nL := 7) (ty := .boolean) (by decide +kernel) rfl (Nat.le_of_ble_eq_true rfl) ?_
  intro p e s m below meth c A Q ls F hl V ret
  have hx := F.x
  have hb := F.b
  have hl : lv_has ls 7 [(0, .ref a_this), (1, .long p1)] := hl
  have B45 : ∀ (K8 : Int32 → Int32 → Prop) (k8 : ∀ {H : Heap} {locs : List Loc} {ls : Array Slot} (v3 : Int32) (v4 : Int32), VW g A s.heap H locs (gX1 g a_this a_this_outlines a_this_words outlines words size) → lv_has ls 7 [(0, .ref a_this), (1, .long p1), (3, .int v3), (4, .int v4)] → K8 v3 v4 → W p l e (kR 2 45 0 0) s m ([.ref a_this, .long p1] : List Value).toArray below meth c H locs 0 0 Q (F0 m 8 ls [])), ∀ {H : Heap} {locs : List Loc} {ls : Array Slot} (v3 : Int32) (v4 : Int32) (V : VW g A s.heap H locs (gX1 g a_this a_this_outlines a_this_words outlines words size)) (hl : lv_has ls 7 [(0, .ref a_this), (1, .long p1), (3, .int v3), (4, .int v4)]) (hw : wX1_beginsLonger_45 outlines size p1 K8 P v3 v4), W p l e (kR 2 45 0 0) s m ([.ref a_this, .long p1] : List Value).toArray below meth c H locs 0 0 Q (F0 m 45 ls []) := by
    intro K8 k8 H locs ls v3 v4 V hl hw
    refine lv_iinc (v := v4 + 1) (lv' := [(4, .int (v4 + 1)), (0, .ref a_this), (1, .long p1), (3, .int v3)]) hx hb dX1_beginsLonger_45 hl (k := 3) rfl rfl (by decide) rfl (fun ls hl => ?_)
    refine lv_goto (tgt := 8) hx hb dX1_beginsLonger_48 (by decide) ?_
    exact k8 v3 (v4 + 1) V (lv_sub hl [1, 2, 3, 0] rfl) hw
  have B8 :  ∀ (n : Nat), ∀ {H : Heap} {locs : List Loc} {ls : Array Slot} (v3 : Int32) (v4 : Int32) (V : VW g A s.heap H locs (gX1 g a_this a_this_outlines a_this_words outlines words size)) (hl : lv_has ls 7 [(0, .ref a_this), (1, .long p1), (3, .int v3), (4, .int v4)]) (hw : wX1_beginsLonger_8 outlines size p1 P n v3 v4), W p l e (kR 2 45 0 0) s m ([.ref a_this, .long p1] : List Value).toArray below meth c H locs 0 0 Q (F0 m 8 ls []) := by
    intro n
    induction n with
    | zero => intro _ _ _ _ _ V hl hw; exact hw.elim
    | succ n ih =>
      intro H locs ls v3 v4 V hl hw
      refine lv_iload hx hb dX1_beginsLonger_8 (lv_at hl 3 rfl) ?_
      refine lv_aload_n hx hb dX1_beginsLonger_10 rfl (lv_at hl 0 rfl) ?_
      refine kget F V 1 2 0 rfl rfl iX1_beginsLonger_X1 fX1_beginsLonger_18 (by decide) rfl rfl dX1_beginsLonger_11 ?_
      refine lv_icmp_ge (tgt := 51) hx hb dX1_beginsLonger_14 (by decide) (fun c_14 => ?_) (fun c_14 => ?_)
      · have hw := hw.1 c_14
        refine lv_iconst (v := 0) hx hb dX1_beginsLonger_51 (by decide) ?_
        exact ret _ _ _ _ _ rfl dX1_beginsLonger_52 V hw
      · have hw := hw.2 c_14
        refine lv_aload_n hx hb dX1_beginsLonger_17 rfl (lv_at hl 0 rfl) ?_
        refine lv_iload hx hb dX1_beginsLonger_18 (lv_at hl 3 rfl) ?_
        refine kVl0 (rest := []) F hl V [0, 1, 2] [] [0, 1, 2] (gX1 g a_this a_this_outlines a_this_words outlines words size) a_this 1 0 rfl rfl (kX1_outlineOf l g a_this a_this_outlines a_this_words outlines words size v4 _ hw) gX1_beginsLonger_X1_outlineOf rfl 1 rfl hdX1_outlineOf rfl rfl (fun _ => rfl) rfl rfl rfl (by decide) ⟨Nat.le_of_ble_eq_true rfl, Nat.le_of_ble_eq_true rfl⟩ ⟨Nat.le_of_ble_eq_true rfl, Nat.le_of_ble_eq_true rfl⟩ (Nat.le_of_ble_eq_true rfl) rfl dX1_beginsLonger_20 (fun r_20 H locs hw V => ?_)
        refine lv_lstore (lv' := [(5, .long r_20), (0, .ref a_this), (1, .long p1), (3, .int v3), (4, .int v4)]) hx hb dX1_beginsLonger_23 hl (by decide) rfl (fun ls hl => ?_)
        refine lv_lload hx hb dX1_beginsLonger_25 (lv_at hl 0 rfl) ?_
        refine lv_lload_n hx hb dX1_beginsLonger_27 rfl (lv_at hl 2 rfl) ?_
        refine W.lcmp hx hb dX1_beginsLonger_28 ?_
        refine lv_if_eq (tgt := 45) hx hb dX1_beginsLonger_29 (by decide) (fun c_29 => ?_) (fun c_29 => ?_)
        · have hw := hw.1 c_29
          exact B45 (wX1_beginsLonger_8 outlines size p1 P n) ih v3 v4 V (lv_sub hl [1, 2, 3, 4] rfl) hw
        · have hw := hw.2 c_29
          refine lv_lload hx hb dX1_beginsLonger_32 (lv_at hl 0 rfl) ?_
          refine lv_iload_n hx hb dX1_beginsLonger_34 rfl (lv_at hl 3 rfl) ?_
          refine kSl0n (rest := []) F hl V (kX5_beginning l g r_20 v3 _ hw) gX1_beginsLonger_X5_beginning rfl 2 rfl hdX5_beginning ⟨Nat.le_of_ble_eq_true rfl, Nat.le_of_ble_eq_true rfl⟩ ⟨Nat.le_of_ble_eq_true rfl, Nat.le_of_ble_eq_true rfl⟩ (Nat.le_of_ble_eq_true rfl) rfl dX1_beginsLonger_35 (fun r_35 H locs hw V => ?_)
          refine lv_lload_n hx hb dX1_beginsLonger_38 rfl (lv_at hl 2 rfl) ?_
          refine W.lcmp hx hb dX1_beginsLonger_39 ?_
          refine lv_if_ne (tgt := 45) hx hb dX1_beginsLonger_40 (by decide) (fun c_40 => ?_) (fun c_40 => ?_)
          · have hw := hw.1 c_40
            exact B45 (wX1_beginsLonger_8 outlines size p1 P n) ih v3 v4 V (lv_sub hl [1, 2, 3, 4] rfl) hw
          · have hw := hw.2 c_40
            refine lv_iconst (v := 1) hx hb dX1_beginsLonger_43 (by decide) ?_
            exact ret _ _ _ _ _ rfl dX1_beginsLonger_44 V hw
  refine lv_lload_n hx hb dX1_beginsLonger_0 rfl (lv_at hl 1 rfl) ?_
  refine kSi0n (rest := []) F hl V (kX5_length l g p1 _ hw) gX1_beginsLonger_X5_length rfl 1 rfl hdX5_length ⟨Nat.le_of_ble_eq_true rfl, Nat.le_of_ble_eq_true rfl⟩ ⟨Nat.le_of_ble_eq_true rfl, Nat.le_of_ble_eq_true rfl⟩ (Nat.le_of_ble_eq_true rfl) rfl dX1_beginsLonger_1 (fun r_1 H locs hw V => ?_)
  refine lv_istore_n (lv' := [(3, .int r_1), (0, .ref a_this), (1, .long p1)]) hx hb dX1_beginsLonger_4 rfl hl (by decide) rfl (fun ls hl => ?_)
  refine lv_iconst (v := 0) hx hb dX1_beginsLonger_5 (by decide) ?_
  refine lv_istore (lv' := [(4, .int 0), (3, .int r_1), (0, .ref a_this), (1, .long p1)]) hx hb dX1_beginsLonger_6 hl (by decide) rfl (fun ls hl => ?_)
  obtain ⟨n_8, hw⟩ := hw
  exact B8  n_8 r_1 0 V (lv_sub hl [2, 3, 1, 0] rfl) hw
theorem hdX5_rest : yX5_rest.cls ≠ "java/lang/invoke/MethodHandle" ∧ yX5_rest.cls ≠ "java/lang/invoke/VarHandle" ∧ (parseMethodDescriptor yX5_rest.desc).map (fun d => d.parameters.length) = some 2 := by decide +kernel
def wX5_rest (p1 : Int64) (p2 : Int32) (P : Int64 → Prop) : Prop := P ((p1.toUInt64 >>> ((p2 * 12).toInt64.toUInt64 &&& Int64.toUInt64 63)).toInt64)
set_option maxHeartbeats 4000000 in
set_option maxRecDepth 100000 in
theorem kX5_rest (l : Launch) (g : kT) (p1 : Int64) (p2 : Int32) (P : Int64 → Prop) (hw : wX5_rest p1 p2 P) : Kl0 l g yX5_rest wsX5_rest 0 0 0 0 [.long p1, .int p2] [] P [] := by
  refine Kl0.mk (cc := cX5_rest) (nL := 3) (by decide +kernel) rfl (Nat.le_of_ble_eq_true rfl) ?_
  intro p e s m below meth c A Q ls F hl V ret
  have hx := F.x
  have hb := F.b
  have hl : lv_has ls 3 [(0, .long p1), (2, .int p2)] := hl
  refine lv_lload_n hx hb dX5_rest_0 rfl (lv_at hl 0 rfl) ?_
  refine lv_iload_n hx hb dX5_rest_1 rfl (lv_at hl 1 rfl) ?_
  refine lv_bipush (v := 12) hx hb dX5_rest_2 (by decide) ?_
  refine lv_imul hx hb dX5_rest_4 ?_
  refine lv_lushr hx hb dX5_rest_5 rfl ?_
  exact ret _ _ _ _ _ dX5_rest_6 V hw
theorem hdX1_isTwo : yX1_isTwo.cls = RX1 ∧ yX1_isTwo.cls ≠ "java/lang/invoke/MethodHandle" ∧ yX1_isTwo.cls ≠ "java/lang/invoke/VarHandle" ∧ (parseMethodDescriptor yX1_isTwo.desc).map (fun d => d.parameters.length) = some 1 := by decide +kernel
def wX1_isTwo_44 (outlines : Nat → Int64) (size : Int32) (p1 : Int64) (K8 : Int32 → Int32 → Prop) (P : Int32 → Prop) (v3 : Int32) (v4 : Int32) : Prop := K8 v3 (v4 + 1)
def wX1_isTwo_8 (outlines : Nat → Int64) (size : Int32) (p1 : Int64) (P : Int32 → Prop) : Nat → Int32 → Int32 → Prop
  | 0, _, _ => False
  | n + 1, v3, v4 => (v3 ≤ v4 → P 0) ∧ (¬ (v3 ≤ v4) → wX5_beginning p1 v4 (fun r_18 => wX1_find outlines size r_18 (fun r_21 => (r_21 = (-1) → wX1_isTwo_44 outlines size p1 (wX1_isTwo_8 outlines size p1 P n) P v3 v4) ∧ (¬ (r_21 = (-1)) → wX5_rest p1 v4 (fun r_32 => wX1_find outlines size r_32 (fun r_35 => (r_35 = (-1) → wX1_isTwo_44 outlines size p1 (wX1_isTwo_8 outlines size p1 P n) P v3 v4) ∧ (¬ (r_35 = (-1)) → P 1)))))))
def wX1_isTwo (outlines : Nat → Int64) (size : Int32) (p1 : Int64) (P : Int32 → Prop) : Prop := wX5_length p1 (fun r_1 => ∃ n_8, wX1_isTwo_8 outlines size p1 P n_8 r_1 1)
set_option maxHeartbeats 4000000 in
set_option maxRecDepth 100000 in
theorem kX1_isTwo (l : Launch) (g : kT) (a_this : Nat) (a_this_outlines : Nat) (a_this_words : Nat) (outlines : Nat → Int64) (words : Nat → Int64) (size : Int32) (p1 : Int64) (P : Int32 → Prop) (hw : wX1_isTwo outlines size p1 P) : Ki0 l g yX1_isTwo wsX1_isTwo 2 45 0 0 [.ref a_this, .long p1] (gX1 g a_this a_this_outlines a_this_words outlines words size) P (gX1 g a_this a_this_outlines a_this_words outlines words size) := by
  refine Ki0.mk (cc := cX1_isTwo) (nL := 5) (ty := .boolean) (by decide +kernel) rfl (Nat.le_of_ble_eq_true rfl) ?_
  intro p e s m below meth c A Q ls F hl V ret
  have hx := F.x
  have hb := F.b
  have hl : lv_has ls 5 [(0, .ref a_this), (1, .long p1)] := hl
  have B44 : ∀ (K8 : Int32 → Int32 → Prop) (k8 : ∀ {H : Heap} {locs : List Loc} {ls : Array Slot} (v3 : Int32) (v4 : Int32), VW g A s.heap H locs (gX1 g a_this a_this_outlines a_this_words outlines words size) → lv_has ls 5 [(0, .ref a_this), (1, .long p1), (3, .int v3), (4, .int v4)] → K8 v3 v4 → W p l e (kR 2 45 0 0) s m ([.ref a_this, .long p1] : List Value).toArray below meth c H locs 0 0 Q (F0 m 8 ls [])), ∀ {H : Heap} {locs : List Loc} {ls : Array Slot} (v3 : Int32) (v4 : Int32) (V : VW g A s.heap H locs (gX1 g a_this a_this_outlines a_this_words outlines words size)) (hl : lv_has ls 5 [(0, .ref a_this), (1, .long p1), (3, .int v3), (4, .int v4)]) (hw : wX1_isTwo_44 outlines size p1 K8 P v3 v4), W p l e (kR 2 45 0 0) s m ([.ref a_this, .long p1] : List Value).toArray below meth c H locs 0 0 Q (F0 m 44 ls []) := by
    intro K8 k8 H locs ls v3 v4 V hl hw
    refine lv_iinc (v := v4 + 1) (lv' := [(4, .int (v4 + 1)), (0, .ref a_this), (1, .long p1), (3, .int v3)]) hx hb dX1_isTwo_44 hl (k := 3) rfl rfl (by decide) rfl (fun ls hl => ?_)
    refine lv_goto (tgt := 8) hx hb dX1_isTwo_47 (by decide) ?_
    exact k8 v3 (v4 + 1) V (lv_sub hl [1, 2, 3, 0] rfl) hw
  have B8 :  ∀ (n : Nat), ∀ {H : Heap} {locs : List Loc} {ls : Array Slot} (v3 : Int32) (v4 : Int32) (V : VW g A s.heap H locs (gX1 g a_this a_this_outlines a_this_words outlines words size)) (hl : lv_has ls 5 [(0, .ref a_this), (1, .long p1), (3, .int v3), (4, .int v4)]) (hw : wX1_isTwo_8 outlines size p1 P n v3 v4), W p l e (kR 2 45 0 0) s m ([.ref a_this, .long p1] : List Value).toArray below meth c H locs 0 0 Q (F0 m 8 ls []) := by
    intro n
    induction n with
    | zero => intro _ _ _ _ _ V hl hw; exact hw.elim
    | succ n ih =>
      intro H locs ls v3 v4 V hl hw
      refine lv_iload hx hb dX1_isTwo_8 (lv_at hl 3 rfl) ?_
      refine lv_iload_n hx hb dX1_isTwo_10 rfl (lv_at hl 2 rfl) ?_
      refine lv_icmp_ge (tgt := 50) hx hb dX1_isTwo_11 (by decide) (fun c_11 => ?_) (fun c_11 => ?_)
      · have hw := hw.1 c_11
        refine lv_iconst (v := 0) hx hb dX1_isTwo_50 (by decide) ?_
        exact ret _ _ _ _ _ rfl dX1_isTwo_51 V hw
      · have hw := hw.2 c_11
        refine lv_aload_n hx hb dX1_isTwo_14 rfl (lv_at hl 0 rfl) ?_
        refine lv_lload_n hx hb dX1_isTwo_15 rfl (lv_at hl 1 rfl) ?_
        refine lv_iload hx hb dX1_isTwo_16 (lv_at hl 3 rfl) ?_
        refine kSl0n (rest := [.ref a_this]) F hl V (kX5_beginning l g p1 v4 _ hw) gX1_isTwo_X5_beginning rfl 2 rfl hdX5_beginning ⟨Nat.le_of_ble_eq_true rfl, Nat.le_of_ble_eq_true rfl⟩ ⟨Nat.le_of_ble_eq_true rfl, Nat.le_of_ble_eq_true rfl⟩ (Nat.le_of_ble_eq_true rfl) rfl dX1_isTwo_18 (fun r_18 H locs hw V => ?_)
        refine kVi0 (rest := []) F hl V [0, 1, 2] [] [0, 1, 2] (gX1 g a_this a_this_outlines a_this_words outlines words size) a_this 1 0 rfl rfl (kX1_find l g a_this a_this_outlines a_this_words outlines words size r_18 _ hw) gX1_isTwo_X1_find rfl 1 rfl hdX1_find rfl rfl (fun _ => rfl) rfl rfl rfl (by decide) ⟨Nat.le_of_ble_eq_true rfl, Nat.le_of_ble_eq_true rfl⟩ ⟨Nat.le_of_ble_eq_true rfl, Nat.le_of_ble_eq_true rfl⟩ (Nat.le_of_ble_eq_true rfl) rfl dX1_isTwo_21 (fun r_21 H locs hw V => ?_)
        refine lv_iconst (v := (-1)) hx hb dX1_isTwo_24 (by decide) ?_
        refine lv_icmp_eq (tgt := 44) hx hb dX1_isTwo_25 (by decide) (fun c_25 => ?_) (fun c_25 => ?_)
        · have hw := hw.1 c_25
          exact B44 (wX1_isTwo_8 outlines size p1 P n) ih v3 v4 V hl hw
        · have hw := hw.2 c_25
          refine lv_aload_n hx hb dX1_isTwo_28 rfl (lv_at hl 0 rfl) ?_
          refine lv_lload_n hx hb dX1_isTwo_29 rfl (lv_at hl 1 rfl) ?_
          refine lv_iload hx hb dX1_isTwo_30 (lv_at hl 3 rfl) ?_
          refine kSl0n (rest := [.ref a_this]) F hl V (kX5_rest l g p1 v4 _ hw) gX1_isTwo_X5_rest rfl 2 rfl hdX5_rest ⟨Nat.le_of_ble_eq_true rfl, Nat.le_of_ble_eq_true rfl⟩ ⟨Nat.le_of_ble_eq_true rfl, Nat.le_of_ble_eq_true rfl⟩ (Nat.le_of_ble_eq_true rfl) rfl dX1_isTwo_32 (fun r_32 H locs hw V => ?_)
          refine kVi0 (rest := []) F hl V [0, 1, 2] [] [0, 1, 2] (gX1 g a_this a_this_outlines a_this_words outlines words size) a_this 1 0 rfl rfl (kX1_find l g a_this a_this_outlines a_this_words outlines words size r_32 _ hw) gX1_isTwo_X1_find rfl 1 rfl hdX1_find rfl rfl (fun _ => rfl) rfl rfl rfl (by decide) ⟨Nat.le_of_ble_eq_true rfl, Nat.le_of_ble_eq_true rfl⟩ ⟨Nat.le_of_ble_eq_true rfl, Nat.le_of_ble_eq_true rfl⟩ (Nat.le_of_ble_eq_true rfl) rfl dX1_isTwo_35 (fun r_35 H locs hw V => ?_)
          refine lv_iconst (v := (-1)) hx hb dX1_isTwo_38 (by decide) ?_
          refine lv_icmp_eq (tgt := 44) hx hb dX1_isTwo_39 (by decide) (fun c_39 => ?_) (fun c_39 => ?_)
          · have hw := hw.1 c_39
            exact B44 (wX1_isTwo_8 outlines size p1 P n) ih v3 v4 V hl hw
          · have hw := hw.2 c_39
            refine lv_iconst (v := 1) hx hb dX1_isTwo_42 (by decide) ?_
            exact ret _ _ _ _ _ rfl dX1_isTwo_43 V hw
  refine lv_lload_n hx hb dX1_isTwo_0 rfl (lv_at hl 1 rfl) ?_
  refine kSi0n (rest := []) F hl V (kX5_length l g p1 _ hw) gX1_isTwo_X5_length rfl 1 rfl hdX5_length ⟨Nat.le_of_ble_eq_true rfl, Nat.le_of_ble_eq_true rfl⟩ ⟨Nat.le_of_ble_eq_true rfl, Nat.le_of_ble_eq_true rfl⟩ (Nat.le_of_ble_eq_true rfl) rfl dX1_isTwo_1 (fun r_1 H locs hw V => ?_)
  refine lv_istore_n (lv' := [(3, .int r_1), (0, .ref a_this), (1, .long p1)]) hx hb dX1_isTwo_4 rfl hl (by decide) rfl (fun ls hl => ?_)
  refine lv_iconst (v := 1) hx hb dX1_isTwo_5 (by decide) ?_
  refine lv_istore (lv' := [(4, .int 1), (3, .int r_1), (0, .ref a_this), (1, .long p1)]) hx hb dX1_isTwo_6 hl (by decide) rfl (fun ls hl => ?_)
  obtain ⟨n_8, hw⟩ := hw
  exact B8  n_8 r_1 1 V (lv_sub hl [2, 3, 1, 0] rfl) hw
theorem hdX1_beginsWithShorter : yX1_beginsWithShorter.cls = RX1 ∧ yX1_beginsWithShorter.cls ≠ "java/lang/invoke/MethodHandle" ∧ yX1_beginsWithShorter.cls ≠ "java/lang/invoke/VarHandle" ∧ (parseMethodDescriptor yX1_beginsWithShorter.desc).map (fun d => d.parameters.length) = some 1 := by decide +kernel
def wX1_beginsWithShorter_8 (outlines : Nat → Int64) (size : Int32) (p1 : Int64) (P : Int32 → Prop) : Nat → Int32 → Int32 → Prop
  | 0, _, _ => False
  | n + 1, v3, v4 => (v3 ≤ v4 → P 0) ∧ (¬ (v3 ≤ v4) → wX5_beginning p1 v4 (fun r_18 => wX1_find outlines size r_18 (fun r_21 => (r_21 = (-1) → (wX1_beginsWithShorter_8 outlines size p1 P n) v3 (v4 + 1)) ∧ (¬ (r_21 = (-1)) → P 1))))
def wX1_beginsWithShorter (outlines : Nat → Int64) (size : Int32) (p1 : Int64) (P : Int32 → Prop) : Prop := wX5_length p1 (fun r_1 => ∃ n_8, wX1_beginsWithShorter_8 outlines size p1 P n_8 r_1 1)
set_option maxHeartbeats 4000000 in
set_option maxRecDepth 100000 in
theorem kX1_beginsWithShorter (l : Launch) (g : kT) (a_this : Nat) (a_this_outlines : Nat) (a_this_words : Nat) (outlines : Nat → Int64) (words : Nat → Int64) (size : Int32) (p1 : Int64) (P : Int32 → Prop) (hw : wX1_beginsWithShorter outlines size p1 P) : Ki0 l g yX1_beginsWithShorter wsX1_beginsWithShorter 2 45 0 0 [.ref a_this, .long p1] (gX1 g a_this a_this_outlines a_this_words outlines words size) P (gX1 g a_this a_this_outlines a_this_words outlines words size) := by
  refine Ki0.mk (cc := cX1_beginsWithShorter) (nL := 5) (ty := .boolean) (by decide +kernel) rfl (Nat.le_of_ble_eq_true rfl) ?_
  intro p e s m below meth c A Q ls F hl V ret
  have hx := F.x
  have hb := F.b
  have hl : lv_has ls 5 [(0, .ref a_this), (1, .long p1)] := hl
  have B8 :  ∀ (n : Nat), ∀ {H : Heap} {locs : List Loc} {ls : Array Slot} (v3 : Int32) (v4 : Int32) (V : VW g A s.heap H locs (gX1 g a_this a_this_outlines a_this_words outlines words size)) (hl : lv_has ls 5 [(0, .ref a_this), (1, .long p1), (3, .int v3), (4, .int v4)]) (hw : wX1_beginsWithShorter_8 outlines size p1 P n v3 v4), W p l e (kR 2 45 0 0) s m ([.ref a_this, .long p1] : List Value).toArray below meth c H locs 0 0 Q (F0 m 8 ls []) := by
    intro n
    induction n with
    | zero => intro _ _ _ _ _ V hl hw; exact hw.elim
    | succ n ih =>
      intro H locs ls v3 v4 V hl hw
      refine lv_iload hx hb dX1_beginsWithShorter_8 (lv_at hl 3 rfl) ?_
      refine lv_iload_n hx hb dX1_beginsWithShorter_10 rfl (lv_at hl 2 rfl) ?_
      refine lv_icmp_ge (tgt := 36) hx hb dX1_beginsWithShorter_11 (by decide) (fun c_11 => ?_) (fun c_11 => ?_)
      · have hw := hw.1 c_11
        refine lv_iconst (v := 0) hx hb dX1_beginsWithShorter_36 (by decide) ?_
        exact ret _ _ _ _ _ rfl dX1_beginsWithShorter_37 V hw
      · have hw := hw.2 c_11
        refine lv_aload_n hx hb dX1_beginsWithShorter_14 rfl (lv_at hl 0 rfl) ?_
        refine lv_lload_n hx hb dX1_beginsWithShorter_15 rfl (lv_at hl 1 rfl) ?_
        refine lv_iload hx hb dX1_beginsWithShorter_16 (lv_at hl 3 rfl) ?_
        refine kSl0n (rest := [.ref a_this]) F hl V (kX5_beginning l g p1 v4 _ hw) gX1_beginsWithShorter_X5_beginning rfl 2 rfl hdX5_beginning ⟨Nat.le_of_ble_eq_true rfl, Nat.le_of_ble_eq_true rfl⟩ ⟨Nat.le_of_ble_eq_true rfl, Nat.le_of_ble_eq_true rfl⟩ (Nat.le_of_ble_eq_true rfl) rfl dX1_beginsWithShorter_18 (fun r_18 H locs hw V => ?_)
        refine kVi0 (rest := []) F hl V [0, 1, 2] [] [0, 1, 2] (gX1 g a_this a_this_outlines a_this_words outlines words size) a_this 1 0 rfl rfl (kX1_find l g a_this a_this_outlines a_this_words outlines words size r_18 _ hw) gX1_beginsWithShorter_X1_find rfl 1 rfl hdX1_find rfl rfl (fun _ => rfl) rfl rfl rfl (by decide) ⟨Nat.le_of_ble_eq_true rfl, Nat.le_of_ble_eq_true rfl⟩ ⟨Nat.le_of_ble_eq_true rfl, Nat.le_of_ble_eq_true rfl⟩ (Nat.le_of_ble_eq_true rfl) rfl dX1_beginsWithShorter_21 (fun r_21 H locs hw V => ?_)
        refine lv_iconst (v := (-1)) hx hb dX1_beginsWithShorter_24 (by decide) ?_
        refine lv_icmp_eq (tgt := 30) hx hb dX1_beginsWithShorter_25 (by decide) (fun c_25 => ?_) (fun c_25 => ?_)
        · have hw := hw.1 c_25
          refine lv_iinc (v := v4 + 1) (lv' := [(4, .int (v4 + 1)), (0, .ref a_this), (1, .long p1), (3, .int v3)]) hx hb dX1_beginsWithShorter_30 hl (k := 3) rfl rfl (by decide) rfl (fun ls hl => ?_)
          refine lv_goto (tgt := 8) hx hb dX1_beginsWithShorter_33 (by decide) ?_
          exact ih v3 (v4 + 1) V (lv_sub hl [1, 2, 3, 0] rfl) hw
        · have hw := hw.2 c_25
          refine lv_iconst (v := 1) hx hb dX1_beginsWithShorter_28 (by decide) ?_
          exact ret _ _ _ _ _ rfl dX1_beginsWithShorter_29 V hw
  refine lv_lload_n hx hb dX1_beginsWithShorter_0 rfl (lv_at hl 1 rfl) ?_
  refine kSi0n (rest := []) F hl V (kX5_length l g p1 _ hw) gX1_beginsWithShorter_X5_length rfl 1 rfl hdX5_length ⟨Nat.le_of_ble_eq_true rfl, Nat.le_of_ble_eq_true rfl⟩ ⟨Nat.le_of_ble_eq_true rfl, Nat.le_of_ble_eq_true rfl⟩ (Nat.le_of_ble_eq_true rfl) rfl dX1_beginsWithShorter_1 (fun r_1 H locs hw V => ?_)
  refine lv_istore_n (lv' := [(3, .int r_1), (0, .ref a_this), (1, .long p1)]) hx hb dX1_beginsWithShorter_4 rfl hl (by decide) rfl (fun ls hl => ?_)
  refine lv_iconst (v := 1) hx hb dX1_beginsWithShorter_5 (by decide) ?_
  refine lv_istore (lv' := [(4, .int 1), (3, .int r_1), (0, .ref a_this), (1, .long p1)]) hx hb dX1_beginsWithShorter_6 hl (by decide) rfl (fun ls hl => ?_)
  obtain ⟨n_8, hw⟩ := hw
  exact B8  n_8 r_1 1 V (lv_sub hl [2, 3, 1, 0] rfl) hw
theorem hdX1_hasTwin : yX1_hasTwin.cls = RX1 ∧ yX1_hasTwin.cls ≠ "java/lang/invoke/MethodHandle" ∧ yX1_hasTwin.cls ≠ "java/lang/invoke/VarHandle" ∧ (parseMethodDescriptor yX1_hasTwin.desc).map (fun d => d.parameters.length) = some 1 := by decide +kernel
theorem fX1_hasTwin_18 : Cond.fieldLink RX1 18 RX1 "size" "I" ∈ wsX1_hasTwin := by decide +kernel
theorem iX1_hasTwin_X1 : ∀ w ∈ u_ws RX1 TX1 3, w ∈ wsX1_hasTwin := by decide +kernel
def wX1_hasTwin_31 (words : Nat → Int64) (size : Int32) (p1 : Int32) (K2 : Int32 → Prop) (P : Int32 → Prop) (v2 : Int32) : Prop := K2 (v2 + 1)
def wX1_hasTwin_2 (words : Nat → Int64) (size : Int32) (p1 : Int32) (P : Int32 → Prop) : Nat → Int32 → Prop
  | 0, _ => False
  | n + 1, v2 => (size ≤ v2 → P 0) ∧ (¬ (size ≤ v2) → (v2 = p1 → wX1_hasTwin_31 words size p1 (wX1_hasTwin_2 words size p1 P n) P v2) ∧ (¬ (v2 = p1) → wX1_wordOf words v2 (fun r_17 => wX1_wordOf words p1 (fun r_22 => (¬ (lg_cmp r_17 r_22) = 0 → wX1_hasTwin_31 words size p1 (wX1_hasTwin_2 words size p1 P n) P v2) ∧ ((lg_cmp r_17 r_22) = 0 → P 1)))))
def wX1_hasTwin (words : Nat → Int64) (size : Int32) (p1 : Int32) (P : Int32 → Prop) : Prop := ∃ n_2, wX1_hasTwin_2 words size p1 P n_2 0
set_option maxHeartbeats 4000000 in
set_option maxRecDepth 100000 in
theorem kX1_hasTwin (l : Launch) (g : kT) (a_this : Nat) (a_this_outlines : Nat) (a_this_words : Nat) (outlines : Nat → Int64) (words : Nat → Int64) (size : Int32) (p1 : Int32) (P : Int32 → Prop) (hw : wX1_hasTwin words size p1 P) : Ki0 l g yX1_hasTwin wsX1_hasTwin 2 42 0 0 [.ref a_this, .int p1] (gX1 g a_this a_this_outlines a_this_words outlines words size) P (gX1 g a_this a_this_outlines a_this_words outlines words size) := by
  refine Ki0.mk (cc := cX1_hasTwin) (nL := 3) (ty := .boolean) (by decide +kernel) rfl (Nat.le_of_ble_eq_true rfl) ?_
  intro p e s m below meth c A Q ls F hl V ret
  have hx := F.x
  have hb := F.b
  have hl : lv_has ls 3 [(0, .ref a_this), (1, .int p1)] := hl
  have B31 : ∀ (K2 : Int32 → Prop) (k2 : ∀ {H : Heap} {locs : List Loc} {ls : Array Slot} (v2 : Int32), VW g A s.heap H locs (gX1 g a_this a_this_outlines a_this_words outlines words size) → lv_has ls 3 [(0, .ref a_this), (1, .int p1), (2, .int v2)] → K2 v2 → W p l e (kR 2 42 0 0) s m ([.ref a_this, .int p1] : List Value).toArray below meth c H locs 0 0 Q (F0 m 2 ls [])), ∀ {H : Heap} {locs : List Loc} {ls : Array Slot} (v2 : Int32) (V : VW g A s.heap H locs (gX1 g a_this a_this_outlines a_this_words outlines words size)) (hl : lv_has ls 3 [(0, .ref a_this), (1, .int p1), (2, .int v2)]) (hw : wX1_hasTwin_31 words size p1 K2 P v2), W p l e (kR 2 42 0 0) s m ([.ref a_this, .int p1] : List Value).toArray below meth c H locs 0 0 Q (F0 m 31 ls []) := by
    intro K2 k2 H locs ls v2 V hl hw
    refine lv_iinc (v := v2 + 1) (lv' := [(2, .int (v2 + 1)), (0, .ref a_this), (1, .int p1)]) hx hb dX1_hasTwin_31 hl (k := 2) rfl rfl (by decide) rfl (fun ls hl => ?_)
    refine lv_goto (tgt := 2) hx hb dX1_hasTwin_34 (by decide) ?_
    exact k2 (v2 + 1) V (lv_sub hl [1, 2, 0] rfl) hw
  have B2 :  ∀ (n : Nat), ∀ {H : Heap} {locs : List Loc} {ls : Array Slot} (v2 : Int32) (V : VW g A s.heap H locs (gX1 g a_this a_this_outlines a_this_words outlines words size)) (hl : lv_has ls 3 [(0, .ref a_this), (1, .int p1), (2, .int v2)]) (hw : wX1_hasTwin_2 words size p1 P n v2), W p l e (kR 2 42 0 0) s m ([.ref a_this, .int p1] : List Value).toArray below meth c H locs 0 0 Q (F0 m 2 ls []) := by
    intro n
    induction n with
    | zero => intro _ _ _ _ V hl hw; exact hw.elim
    | succ n ih =>
      intro H locs ls v2 V hl hw
      refine lv_iload_n hx hb dX1_hasTwin_2 rfl (lv_at hl 2 rfl) ?_
      refine lv_aload_n hx hb dX1_hasTwin_3 rfl (lv_at hl 0 rfl) ?_
      refine kget F V 1 2 0 rfl rfl iX1_hasTwin_X1 fX1_hasTwin_18 (by decide) rfl rfl dX1_hasTwin_4 ?_
      refine lv_icmp_ge (tgt := 37) hx hb dX1_hasTwin_7 (by decide) (fun c_7 => ?_) (fun c_7 => ?_)
      · have hw := hw.1 c_7
        refine lv_iconst (v := 0) hx hb dX1_hasTwin_37 (by decide) ?_
        exact ret _ _ _ _ _ rfl dX1_hasTwin_38 V hw
      · have hw := hw.2 c_7
        refine lv_iload_n hx hb dX1_hasTwin_10 rfl (lv_at hl 2 rfl) ?_
        refine lv_iload_n hx hb dX1_hasTwin_11 rfl (lv_at hl 1 rfl) ?_
        refine lv_icmp_eq (tgt := 31) hx hb dX1_hasTwin_12 (by decide) (fun c_12 => ?_) (fun c_12 => ?_)
        · have hw := hw.1 c_12
          exact B31 (wX1_hasTwin_2 words size p1 P n) ih v2 V hl hw
        · have hw := hw.2 c_12
          refine lv_aload_n hx hb dX1_hasTwin_15 rfl (lv_at hl 0 rfl) ?_
          refine lv_iload_n hx hb dX1_hasTwin_16 rfl (lv_at hl 2 rfl) ?_
          refine kVl0 (rest := []) F hl V [0, 1, 2] [] [0, 1, 2] (gX1 g a_this a_this_outlines a_this_words outlines words size) a_this 1 0 rfl rfl (kX1_wordOf l g a_this a_this_outlines a_this_words outlines words size v2 _ hw) gX1_hasTwin_X1_wordOf rfl 1 rfl hdX1_wordOf rfl rfl (fun _ => rfl) rfl rfl rfl (by decide) ⟨Nat.le_of_ble_eq_true rfl, Nat.le_of_ble_eq_true rfl⟩ ⟨Nat.le_of_ble_eq_true rfl, Nat.le_of_ble_eq_true rfl⟩ (Nat.le_of_ble_eq_true rfl) rfl dX1_hasTwin_17 (fun r_17 H locs hw V => ?_)
          refine lv_aload_n hx hb dX1_hasTwin_20 rfl (lv_at hl 0 rfl) ?_
          refine lv_iload_n hx hb dX1_hasTwin_21 rfl (lv_at hl 1 rfl) ?_
          refine kVl0 (rest := [.long r_17]) F hl V [0, 1, 2] [] [0, 1, 2] (gX1 g a_this a_this_outlines a_this_words outlines words size) a_this 1 0 rfl rfl (kX1_wordOf l g a_this a_this_outlines a_this_words outlines words size p1 _ hw) gX1_hasTwin_X1_wordOf rfl 1 rfl hdX1_wordOf rfl rfl (fun _ => rfl) rfl rfl rfl (by decide) ⟨Nat.le_of_ble_eq_true rfl, Nat.le_of_ble_eq_true rfl⟩ ⟨Nat.le_of_ble_eq_true rfl, Nat.le_of_ble_eq_true rfl⟩ (Nat.le_of_ble_eq_true rfl) rfl dX1_hasTwin_22 (fun r_22 H locs hw V => ?_)
          refine W.lcmp hx hb dX1_hasTwin_25 ?_
          refine lv_if_ne (tgt := 31) hx hb dX1_hasTwin_26 (by decide) (fun c_26 => ?_) (fun c_26 => ?_)
          · have hw := hw.1 c_26
            exact B31 (wX1_hasTwin_2 words size p1 P n) ih v2 V hl hw
          · have hw := hw.2 c_26
            refine lv_iconst (v := 1) hx hb dX1_hasTwin_29 (by decide) ?_
            exact ret _ _ _ _ _ rfl dX1_hasTwin_30 V hw
  refine lv_iconst (v := 0) hx hb dX1_hasTwin_0 (by decide) ?_
  refine lv_istore_n (lv' := [(2, .int 0), (0, .ref a_this), (1, .int p1)]) hx hb dX1_hasTwin_1 rfl hl (by decide) rfl (fun ls hl => ?_)
  obtain ⟨n_2, hw⟩ := hw
  exact B2  n_2 0 V (lv_sub hl [1, 2, 0] rfl) hw
theorem hdX1_clashOf : yX1_clashOf.cls = RX1 ∧ yX1_clashOf.cls ≠ "java/lang/invoke/MethodHandle" ∧ yX1_clashOf.cls ≠ "java/lang/invoke/VarHandle" ∧ (parseMethodDescriptor yX1_clashOf.desc).map (fun d => d.parameters.length) = some 1 := by decide +kernel
def wX1_clashOf (outlines : Nat → Int64) (words : Nat → Int64) (size : Int32) (p1 : Int32) (P : Int32 → Prop) : Prop := wX1_outlineOf outlines p1 (fun r_2 => wX1_beginsLonger outlines size r_2 (fun r_8 => (r_8 = 0 → wX1_isTwo outlines size r_2 (fun r_18 => (r_18 = 0 → wX1_beginsWithShorter outlines size r_2 (fun r_28 => (r_28 = 0 → wX1_hasTwin words size p1 (fun r_38 => (r_38 = 0 → P 0) ∧ (¬ (r_38 = 0) → P 4))) ∧ (¬ (r_28 = 0) → P 3))) ∧ (¬ (r_18 = 0) → P 2))) ∧ (¬ (r_8 = 0) → P 1)))
set_option maxHeartbeats 4000000 in
set_option maxRecDepth 100000 in
theorem kX1_clashOf (l : Launch) (g : kT) (a_this : Nat) (a_this_outlines : Nat) (a_this_words : Nat) (outlines : Nat → Int64) (words : Nat → Int64) (size : Int32) (p1 : Int32) (P : Int32 → Prop) (hw : wX1_clashOf outlines words size p1 P) : Ki0 l g yX1_clashOf wsX1_clashOf 3 71 0 0 [.ref a_this, .int p1] (gX1 g a_this a_this_outlines a_this_words outlines words size) P (gX1 g a_this a_this_outlines a_this_words outlines words size) := by
  refine Ki0.mk (cc := cX1_clashOf) (nL := 4) (ty := .int) (by decide +kernel) rfl (Nat.le_of_ble_eq_true rfl) ?_
  intro p e s m below meth c A Q ls F hl V ret
  have hx := F.x
  have hb := F.b
  have hl : lv_has ls 4 [(0, .ref a_this), (1, .int p1)] := hl
  refine lv_aload_n hx hb dX1_clashOf_0 rfl (lv_at hl 0 rfl) ?_
  refine lv_iload_n hx hb dX1_clashOf_1 rfl (lv_at hl 1 rfl) ?_
  refine kVl0 (rest := []) F hl V [0, 1, 2] [] [0, 1, 2] (gX1 g a_this a_this_outlines a_this_words outlines words size) a_this 1 0 rfl rfl (kX1_outlineOf l g a_this a_this_outlines a_this_words outlines words size p1 _ hw) gX1_clashOf_X1_outlineOf rfl 1 rfl hdX1_outlineOf rfl rfl (fun _ => rfl) rfl rfl rfl (by decide) ⟨Nat.le_of_ble_eq_true rfl, Nat.le_of_ble_eq_true rfl⟩ ⟨Nat.le_of_ble_eq_true rfl, Nat.le_of_ble_eq_true rfl⟩ (Nat.le_of_ble_eq_true rfl) rfl dX1_clashOf_2 (fun r_2 H locs hw V => ?_)
  refine lv_lstore_n (lv' := [(2, .long r_2), (0, .ref a_this), (1, .int p1)]) hx hb dX1_clashOf_5 rfl hl (by decide) rfl (fun ls hl => ?_)
  refine lv_aload_n hx hb dX1_clashOf_6 rfl (lv_at hl 1 rfl) ?_
  refine lv_lload_n hx hb dX1_clashOf_7 rfl (lv_at hl 0 rfl) ?_
  refine kVi0 (rest := []) F hl V [0, 1, 2] [] [0, 1, 2] (gX1 g a_this a_this_outlines a_this_words outlines words size) a_this 1 0 rfl rfl (kX1_beginsLonger l g a_this a_this_outlines a_this_words outlines words size r_2 _ hw) gX1_clashOf_X1_beginsLonger rfl 1 rfl hdX1_beginsLonger rfl rfl (fun _ => rfl) rfl rfl rfl (by decide) ⟨Nat.le_of_ble_eq_true rfl, Nat.le_of_ble_eq_true rfl⟩ ⟨Nat.le_of_ble_eq_true rfl, Nat.le_of_ble_eq_true rfl⟩ (Nat.le_of_ble_eq_true rfl) rfl dX1_clashOf_8 (fun r_8 H locs hw V => ?_)
  refine lv_if_eq (tgt := 16) hx hb dX1_clashOf_11 (by decide) (fun c_11 => ?_) (fun c_11 => ?_)
  · have hw := hw.1 c_11
    refine lv_aload_n hx hb dX1_clashOf_16 rfl (lv_at hl 1 rfl) ?_
    refine lv_lload_n hx hb dX1_clashOf_17 rfl (lv_at hl 0 rfl) ?_
    refine kVi0 (rest := []) F hl V [0, 1, 2] [] [0, 1, 2] (gX1 g a_this a_this_outlines a_this_words outlines words size) a_this 1 0 rfl rfl (kX1_isTwo l g a_this a_this_outlines a_this_words outlines words size r_2 _ hw) gX1_clashOf_X1_isTwo rfl 1 rfl hdX1_isTwo rfl rfl (fun _ => rfl) rfl rfl rfl (by decide) ⟨Nat.le_of_ble_eq_true rfl, Nat.le_of_ble_eq_true rfl⟩ ⟨Nat.le_of_ble_eq_true rfl, Nat.le_of_ble_eq_true rfl⟩ (Nat.le_of_ble_eq_true rfl) rfl dX1_clashOf_18 (fun r_18 H locs hw V => ?_)
    refine lv_if_eq (tgt := 26) hx hb dX1_clashOf_21 (by decide) (fun c_21 => ?_) (fun c_21 => ?_)
    · have hw := hw.1 c_21
      refine lv_aload_n hx hb dX1_clashOf_26 rfl (lv_at hl 1 rfl) ?_
      refine lv_lload_n hx hb dX1_clashOf_27 rfl (lv_at hl 0 rfl) ?_
      refine kVi0 (rest := []) F hl V [0, 1, 2] [] [0, 1, 2] (gX1 g a_this a_this_outlines a_this_words outlines words size) a_this 1 0 rfl rfl (kX1_beginsWithShorter l g a_this a_this_outlines a_this_words outlines words size r_2 _ hw) gX1_clashOf_X1_beginsWithShorter rfl 1 rfl hdX1_beginsWithShorter rfl rfl (fun _ => rfl) rfl rfl rfl (by decide) ⟨Nat.le_of_ble_eq_true rfl, Nat.le_of_ble_eq_true rfl⟩ ⟨Nat.le_of_ble_eq_true rfl, Nat.le_of_ble_eq_true rfl⟩ (Nat.le_of_ble_eq_true rfl) rfl dX1_clashOf_28 (fun r_28 H locs hw V => ?_)
      refine lv_if_eq (tgt := 36) hx hb dX1_clashOf_31 (by decide) (fun c_31 => ?_) (fun c_31 => ?_)
      · have hw := hw.1 c_31
        refine lv_aload_n hx hb dX1_clashOf_36 rfl (lv_at hl 1 rfl) ?_
        refine lv_iload_n hx hb dX1_clashOf_37 rfl (lv_at hl 2 rfl) ?_
        refine kVi0 (rest := []) F hl V [0, 1, 2] [] [0, 1, 2] (gX1 g a_this a_this_outlines a_this_words outlines words size) a_this 1 0 rfl rfl (kX1_hasTwin l g a_this a_this_outlines a_this_words outlines words size p1 _ hw) gX1_clashOf_X1_hasTwin rfl 1 rfl hdX1_hasTwin rfl rfl (fun _ => rfl) rfl rfl rfl (by decide) ⟨Nat.le_of_ble_eq_true rfl, Nat.le_of_ble_eq_true rfl⟩ ⟨Nat.le_of_ble_eq_true rfl, Nat.le_of_ble_eq_true rfl⟩ (Nat.le_of_ble_eq_true rfl) rfl dX1_clashOf_38 (fun r_38 H locs hw V => ?_)
        refine lv_if_eq (tgt := 48) hx hb dX1_clashOf_41 (by decide) (fun c_41 => ?_) (fun c_41 => ?_)
        · have hw := hw.1 c_41
          refine lv_iconst (v := 0) hx hb dX1_clashOf_48 (by decide) ?_
          exact ret _ _ _ _ _ rfl dX1_clashOf_49 V hw
        · have hw := hw.2 c_41
          refine lv_iconst (v := 4) hx hb dX1_clashOf_44 (by decide) ?_
          refine lv_goto (tgt := 49) hx hb dX1_clashOf_45 (by decide) ?_
          exact ret _ _ _ _ _ rfl dX1_clashOf_49 V hw
      · have hw := hw.2 c_31
        refine lv_iconst (v := 3) hx hb dX1_clashOf_34 (by decide) ?_
        exact ret _ _ _ _ _ rfl dX1_clashOf_35 V hw
    · have hw := hw.2 c_21
      refine lv_iconst (v := 2) hx hb dX1_clashOf_24 (by decide) ?_
      exact ret _ _ _ _ _ rfl dX1_clashOf_25 V hw
  · have hw := hw.2 c_11
    refine lv_iconst (v := 1) hx hb dX1_clashOf_14 (by decide) ?_
    exact ret _ _ _ _ _ rfl dX1_clashOf_15 V hw
