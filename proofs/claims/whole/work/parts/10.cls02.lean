theorem hdX4_addEntries : yX4_addEntries.cls = RX4 ∧ yX4_addEntries.cls ≠ "java/lang/invoke/MethodHandle" ∧ yX4_addEntries.cls ≠ "java/lang/invoke/VarHandle" ∧ (parseMethodDescriptor yX4_addEntries.desc).map (fun d => d.parameters.length) = some 2 := by decide +kernel
theorem fX4_addEntries_35 : Cond.fieldLink RX4 35 RX0 "length" "I" ∈ wsX4_addEntries := by decide +kernel
theorem iX4_addEntries_X0 : ∀ w ∈ u_ws RX0 TX0 2, w ∈ wsX4_addEntries := by decide +kernel
theorem fX4_addEntries_40 : Cond.fieldLink RX4 40 RX0 "codes" "[I" ∈ wsX4_addEntries := by decide +kernel
theorem fX4_addEntries_9 : Cond.fieldLink RX4 9 RX4 "outline" "J" ∈ wsX4_addEntries := by decide +kernel
theorem iX4_addEntries_X4 : ∀ w ∈ u_ws RX4 TX4 6, w ∈ wsX4_addEntries := by decide +kernel
theorem fX4_addEntries_26 : Cond.fieldLink RX4 26 RX4 "word" "J" ∈ wsX4_addEntries := by decide +kernel
def wX4_addEntries_69 (p1_codes : Nat → Int32) (p1_length : Int32) (K6 : Int32 → Int64 → Int32 → Int32 → Int32 → Int64 → Int32 → (Nat → Int64) → (Nat → Int64) → Int32 → Prop) (P : Int32 → Int64 → Int32 → Int32 → Int32 → Int64 → Int32 → (Nat → Int64) → (Nat → Int64) → Int32 → Prop) (v3 : Int32) (v4 : Int32) (outline : Int64) (strokes : Int32) (keys : Int32) (inWord : Int32) (word : Int64) (letters : Int32) (p2_outlines : Nat → Int64) (p2_words : Nat → Int64) (p2_size : Int32) : Prop := wX4_reads v4 (fun r_72 outline_72 strokes_72 keys_72 inWord_72 word_72 letters_72 => K6 (v3 + 1) outline_72 strokes_72 keys_72 inWord_72 word_72 letters_72 p2_outlines p2_words p2_size) outline strokes keys inWord word letters
def wX4_addEntries_35 (p1_codes : Nat → Int32) (p1_length : Int32) (K6 : Int32 → Int64 → Int32 → Int32 → Int32 → Int64 → Int32 → (Nat → Int64) → (Nat → Int64) → Int32 → Prop) (P : Int32 → Int64 → Int32 → Int32 → Int32 → Int64 → Int32 → (Nat → Int64) → (Nat → Int64) → Int32 → Prop) (v3 : Int32) (s0 : Int32) (outline : Int64) (strokes : Int32) (keys : Int32) (inWord : Int32) (word : Int64) (letters : Int32) (p2_outlines : Nat → Int64) (p2_words : Nat → Int64) (p2_size : Int32) : Prop := (¬ s0 = 59 → wX4_addEntries_69 p1_codes p1_length K6 P v3 s0 outline strokes keys inWord word letters p2_outlines p2_words p2_size) ∧ (s0 = 59 → wX1_hasRoomFor p2_outlines p2_size outline (fun r_49 => (¬ r_49 = 0 → wX1_add outline word (fun p2_outlines_66 p2_words_66 p2_size_66 => wX4_addEntries_69 p1_codes p1_length K6 P v3 s0 outline strokes keys inWord word letters p2_outlines_66 p2_words_66 p2_size_66) p2_outlines p2_words p2_size) ∧ (r_49 = 0 → P 0 outline strokes keys inWord word letters p2_outlines p2_words p2_size)))
def wX4_addEntries_6 (p1_codes : Nat → Int32) (p1_length : Int32) (P : Int32 → Int64 → Int32 → Int32 → Int32 → Int64 → Int32 → (Nat → Int64) → (Nat → Int64) → Int32 → Prop) : Nat → Int32 → Int64 → Int32 → Int32 → Int32 → Int64 → Int32 → (Nat → Int64) → (Nat → Int64) → Int32 → Prop
  | 0, _, _, _, _, _, _, _, _, _, _ => False
  | n + 1, v3, outline, strokes, keys, inWord, word, letters, p2_outlines, p2_words, p2_size => (p1_length < v3 → P 1 outline strokes keys inWord word letters p2_outlines p2_words p2_size) ∧ (¬ (p1_length < v3) → (p1_length ≤ v3 → wX4_addEntries_35 p1_codes p1_length (wX4_addEntries_6 p1_codes p1_length P n) P v3 59 outline strokes keys inWord word letters p2_outlines p2_words p2_size) ∧ (¬ (p1_length ≤ v3) → wX6_at 60 p1_codes v3 (fun r_27 => wX4_addEntries_35 p1_codes p1_length (wX4_addEntries_6 p1_codes p1_length P n) P v3 r_27 outline strokes keys inWord word letters p2_outlines p2_words p2_size)))
def wX4_addEntries (p1_codes : Nat → Int32) (p1_length : Int32) (P : Int32 → Int64 → Int32 → Int32 → Int32 → Int64 → Int32 → (Nat → Int64) → (Nat → Int64) → Int32 → Prop) (outline : Int64) (strokes : Int32) (keys : Int32) (inWord : Int32) (word : Int64) (letters : Int32) (p2_outlines : Nat → Int64) (p2_words : Nat → Int64) (p2_size : Int32) : Prop := wX4_restart (fun outline_1 strokes_1 keys_1 inWord_1 word_1 letters_1 => ∃ n_6, wX4_addEntries_6 p1_codes p1_length P n_6 0 outline_1 strokes_1 keys_1 inWord_1 word_1 letters_1 p2_outlines p2_words p2_size) outline strokes keys inWord word letters
set_option maxHeartbeats 4000000 in
set_option maxRecDepth 100000 in
theorem kX4_addEntries (l : Launch) (g : kT) (a_this a_p1 a_p1_codes a_p2 a_p2_outlines a_p2_words : Nat) (outline : Int64) (strokes : Int32) (keys : Int32) (inWord : Int32) (word : Int64) (letters : Int32) (p1_codes : Nat → Int32) (p1_length : Int32) (p2_outlines : Nat → Int64) (p2_words : Nat → Int64) (p2_size : Int32) (P : Int32 → Int64 → Int32 → Int32 → Int32 → Int64 → Int32 → (Nat → Int64) → (Nat → Int64) → Int32 → Prop) (hw : wX4_addEntries p1_codes p1_length P outline strokes keys inWord word letters p2_outlines p2_words p2_size) : Ki9 l g yX4_addEntries wsX4_addEntries 4 86 0 0 [.ref a_this, .ref a_p1, .ref a_p2] (gX4 g a_this outline strokes keys inWord word letters ++ (gX0 g a_p1 a_p1_codes p1_codes p1_length ++ (gX1 g a_p2 a_p2_outlines a_p2_words p2_outlines p2_words p2_size))) P (fun outline strokes keys inWord word letters p2_outlines p2_words p2_size => (gX4 g a_this outline strokes keys inWord word letters ++ (gX0 g a_p1 a_p1_codes p1_codes p1_length ++ (gX1 g a_p2 a_p2_outlines a_p2_words p2_outlines p2_words p2_size)))) := by
  refine Ki9.mk (cc := cX4_addEntries) (nL := 5) (ty := .boolean) (by decide +kernel) rfl (Nat.le_of_ble_eq_true rfl) ?_
  intro p e s m below meth c A Q ls F hl V ret
  have hx := F.x
  have hb := F.b
  have hl : lv_has ls 5 [(0, .ref a_this), (1, .ref a_p1), (2, .ref a_p2)] := hl
  have B69 : ∀ (K6 : Int32 → Int64 → Int32 → Int32 → Int32 → Int64 → Int32 → (Nat → Int64) → (Nat → Int64) → Int32 → Prop) (k6 : ∀ {H : Heap} {locs : List Loc} {ls : Array Slot} (v3 : Int32) (outline : Int64) (strokes : Int32) (keys : Int32) (inWord : Int32) (word : Int64) (letters : Int32) (p2_outlines : Nat → Int64) (p2_words : Nat → Int64) (p2_size : Int32), VW g A s.heap H locs (gX4 g a_this outline strokes keys inWord word letters ++ (gX0 g a_p1 a_p1_codes p1_codes p1_length ++ (gX1 g a_p2 a_p2_outlines a_p2_words p2_outlines p2_words p2_size))) → lv_has ls 5 [(0, .ref a_this), (1, .ref a_p1), (2, .ref a_p2), (3, .int v3)] → K6 v3 outline strokes keys inWord word letters p2_outlines p2_words p2_size → W p l e (kR 4 86 0 0) s m ([.ref a_this, .ref a_p1, .ref a_p2] : List Value).toArray below meth c H locs 0 0 Q (F0 m 6 ls [])), ∀ {H : Heap} {locs : List Loc} {ls : Array Slot} (v3 : Int32) (v4 : Int32) (outline : Int64) (strokes : Int32) (keys : Int32) (inWord : Int32) (word : Int64) (letters : Int32) (p2_outlines : Nat → Int64) (p2_words : Nat → Int64) (p2_size : Int32) (V : VW g A s.heap H locs (gX4 g a_this outline strokes keys inWord word letters ++ (gX0 g a_p1 a_p1_codes p1_codes p1_length ++ (gX1 g a_p2 a_p2_outlines a_p2_words p2_outlines p2_words p2_size)))) (hl : lv_has ls 5 [(0, .ref a_this), (1, .ref a_p1), (2, .ref a_p2), (3, .int v3), (4, .int v4)]) (hw : wX4_addEntries_69 p1_codes p1_length K6 P v3 v4 outline strokes keys inWord word letters p2_outlines p2_words p2_size), W p l e (kR 4 86 0 0) s m ([.ref a_this, .ref a_p1, .ref a_p2] : List Value).toArray below meth c H locs 0 0 Q (F0 m 69 ls []) := by
    intro K6 k6 H locs ls v3 v4 outline strokes keys inWord word letters p2_outlines p2_words p2_size V hl hw
    refine lv_aload_n hx hb dX4_addEntries_69 rfl (lv_at hl 0 rfl) ?_
    refine lv_iload hx hb dX4_addEntries_70 (lv_at hl 4 rfl) ?_
    refine kVi6 (rest := []) F hl V [0] [1, 2, 3, 4, 5] [5, 0, 1, 2, 3, 4] (fun outline_72 strokes_72 keys_72 inWord_72 word_72 letters_72 => (gX4 g a_this outline_72 strokes_72 keys_72 inWord_72 word_72 letters_72 ++ (gX0 g a_p1 a_p1_codes p1_codes p1_length ++ (gX1 g a_p2 a_p2_outlines a_p2_words p2_outlines p2_words p2_size)))) a_this 3 0 rfl rfl (kX4_reads l g a_this outline strokes keys inWord word letters v4 _ hw) gX4_addEntries_X4_reads rfl 1 rfl hdX4_reads rfl rfl (fun _ _ _ _ _ _ => rfl) rfl rfl rfl (by decide) ⟨Nat.le_of_ble_eq_true rfl, Nat.le_of_ble_eq_true rfl⟩ ⟨Nat.le_of_ble_eq_true rfl, Nat.le_of_ble_eq_true rfl⟩ (Nat.le_of_ble_eq_true rfl) rfl dX4_addEntries_72 (fun r_72 outline_72 strokes_72 keys_72 inWord_72 word_72 letters_72 H locs hw V => ?_)
    refine lv_pop hx hb dX4_addEntries_75 rfl ?_
    refine lv_iinc (v := v3 + 1) (lv' := [(3, .int (v3 + 1)), (0, .ref a_this), (1, .ref a_p1), (2, .ref a_p2), (4, .int v4)]) hx hb dX4_addEntries_76 hl (k := 3) rfl rfl (by decide) rfl (fun ls hl => ?_)
    refine lv_goto (tgt := 6) hx hb dX4_addEntries_79 (by decide) ?_
    exact k6 (v3 + 1) outline_72 strokes_72 keys_72 inWord_72 word_72 letters_72 p2_outlines p2_words p2_size V (lv_sub hl [1, 2, 3, 0] rfl) hw
  have B35 : ∀ (K6 : Int32 → Int64 → Int32 → Int32 → Int32 → Int64 → Int32 → (Nat → Int64) → (Nat → Int64) → Int32 → Prop) (k6 : ∀ {H : Heap} {locs : List Loc} {ls : Array Slot} (v3 : Int32) (outline : Int64) (strokes : Int32) (keys : Int32) (inWord : Int32) (word : Int64) (letters : Int32) (p2_outlines : Nat → Int64) (p2_words : Nat → Int64) (p2_size : Int32), VW g A s.heap H locs (gX4 g a_this outline strokes keys inWord word letters ++ (gX0 g a_p1 a_p1_codes p1_codes p1_length ++ (gX1 g a_p2 a_p2_outlines a_p2_words p2_outlines p2_words p2_size))) → lv_has ls 5 [(0, .ref a_this), (1, .ref a_p1), (2, .ref a_p2), (3, .int v3)] → K6 v3 outline strokes keys inWord word letters p2_outlines p2_words p2_size → W p l e (kR 4 86 0 0) s m ([.ref a_this, .ref a_p1, .ref a_p2] : List Value).toArray below meth c H locs 0 0 Q (F0 m 6 ls [])), ∀ {H : Heap} {locs : List Loc} {ls : Array Slot} (v3 : Int32) (s0 : Int32) (outline : Int64) (strokes : Int32) (keys : Int32) (inWord : Int32) (word : Int64) (letters : Int32) (p2_outlines : Nat → Int64) (p2_words : Nat → Int64) (p2_size : Int32) (V : VW g A s.heap H locs (gX4 g a_this outline strokes keys inWord word letters ++ (gX0 g a_p1 a_p1_codes p1_codes p1_length ++ (gX1 g a_p2 a_p2_outlines a_p2_words p2_outlines p2_words p2_size)))) (hl : lv_has ls 5 [(0, .ref a_this), (1, .ref a_p1), (2, .ref a_p2), (3, .int v3)]) (hw : wX4_addEntries_35 p1_codes p1_length K6 P v3 s0 outline strokes keys inWord word letters p2_outlines p2_words p2_size), W p l e (kR 4 86 0 0) s m ([.ref a_this, .ref a_p1, .ref a_p2] : List Value).toArray below meth c H locs 0 0 Q (F0 m 35 ls [.int s0]) := by
    intro K6 k6 H locs ls v3 s0 outline strokes keys inWord word letters p2_outlines p2_words p2_size V hl hw
    refine lv_istore (lv' := [(4, .int s0), (0, .ref a_this), (1, .ref a_p1), (2, .ref a_p2), (3, .int v3)]) hx hb dX4_addEntries_35 hl (by decide) rfl (fun ls hl => ?_)
    refine lv_iload hx hb dX4_addEntries_37 (lv_at hl 0 rfl) ?_
    refine lv_bipush (v := 59) hx hb dX4_addEntries_39 (by decide) ?_
    refine lv_icmp_ne (tgt := 69) hx hb dX4_addEntries_41 (by decide) (fun c_41 => ?_) (fun c_41 => ?_)
    · have hw := hw.1 c_41
      exact B69 K6 k6 v3 s0 outline strokes keys inWord word letters p2_outlines p2_words p2_size V (lv_sub hl [1, 2, 3, 4, 0] rfl) hw
    · have hw := hw.2 c_41
      refine lv_aload_n hx hb dX4_addEntries_44 rfl (lv_at hl 3 rfl) ?_
      refine lv_aload_n hx hb dX4_addEntries_45 rfl (lv_at hl 1 rfl) ?_
      refine kget F V 3 0 0 rfl rfl iX4_addEntries_X4 fX4_addEntries_9 (by decide) rfl rfl dX4_addEntries_46 ?_
      refine kVi0 (rest := []) F hl V [3, 4, 5] [0, 1, 2] [0, 1, 2, 3, 4, 5] (gX4 g a_this outline strokes keys inWord word letters ++ (gX0 g a_p1 a_p1_codes p1_codes p1_length ++ (gX1 g a_p2 a_p2_outlines a_p2_words p2_outlines p2_words p2_size))) a_p2 1 3 rfl rfl (kX1_hasRoomFor l g a_p2 a_p2_outlines a_p2_words p2_outlines p2_words p2_size outline _ hw) gX4_addEntries_X1_hasRoomFor rfl 1 rfl hdX1_hasRoomFor rfl rfl (fun _ => rfl) rfl rfl rfl (by decide) ⟨Nat.le_of_ble_eq_true rfl, Nat.le_of_ble_eq_true rfl⟩ ⟨Nat.le_of_ble_eq_true rfl, Nat.le_of_ble_eq_true rfl⟩ (Nat.le_of_ble_eq_true rfl) rfl dX4_addEntries_49 (fun r_49 H locs hw V => ?_)
      refine lv_if_ne (tgt := 57) hx hb dX4_addEntries_52 (by decide) (fun c_52 => ?_) (fun c_52 => ?_)
      · have hw := hw.1 c_52
        refine lv_aload_n hx hb dX4_addEntries_57 rfl (lv_at hl 3 rfl) ?_
        refine lv_aload_n hx hb dX4_addEntries_58 rfl (lv_at hl 1 rfl) ?_
        refine kget F V 3 0 0 rfl rfl iX4_addEntries_X4 fX4_addEntries_9 (by decide) rfl rfl dX4_addEntries_59 ?_
        refine lv_aload_n hx hb dX4_addEntries_62 rfl (lv_at hl 1 rfl) ?_
        refine kget F V 3 4 0 rfl rfl iX4_addEntries_X4 fX4_addEntries_26 (by decide) rfl rfl dX4_addEntries_63 ?_
        refine kVv3 (rest := []) F hl V [3, 4, 5] [0, 1, 2] [0, 1, 2, 3, 4, 5] (fun p2_outlines_66 p2_words_66 p2_size_66 => (gX4 g a_this outline strokes keys inWord word letters ++ (gX0 g a_p1 a_p1_codes p1_codes p1_length ++ (gX1 g a_p2 a_p2_outlines a_p2_words p2_outlines_66 p2_words_66 p2_size_66)))) a_p2 1 3 rfl rfl (kX1_add l g a_p2 a_p2_outlines a_p2_words p2_outlines p2_words p2_size outline word _ hw) gX4_addEntries_X1_add rfl 2 rfl hdX1_add rfl rfl (fun _ _ _ => rfl) rfl rfl rfl (by decide) ⟨Nat.le_of_ble_eq_true rfl, Nat.le_of_ble_eq_true rfl⟩ ⟨Nat.le_of_ble_eq_true rfl, Nat.le_of_ble_eq_true rfl⟩ (Nat.le_of_ble_eq_true rfl) rfl dX4_addEntries_66 (fun p2_outlines_66 p2_words_66 p2_size_66 H locs hw V => ?_)
        exact B69 K6 k6 v3 s0 outline strokes keys inWord word letters p2_outlines_66 p2_words_66 p2_size_66 V (lv_sub hl [1, 2, 3, 4, 0] rfl) hw
      · have hw := hw.2 c_52
        refine lv_iconst (v := 0) hx hb dX4_addEntries_55 (by decide) ?_
        exact ret _ _ _ _ _ _ _ _ _ _ _ _ _ _ rfl dX4_addEntries_56 V hw
  have B6 :  ∀ (n : Nat), ∀ {H : Heap} {locs : List Loc} {ls : Array Slot} (v3 : Int32) (outline : Int64) (strokes : Int32) (keys : Int32) (inWord : Int32) (word : Int64) (letters : Int32) (p2_outlines : Nat → Int64) (p2_words : Nat → Int64) (p2_size : Int32) (V : VW g A s.heap H locs (gX4 g a_this outline strokes keys inWord word letters ++ (gX0 g a_p1 a_p1_codes p1_codes p1_length ++ (gX1 g a_p2 a_p2_outlines a_p2_words p2_outlines p2_words p2_size)))) (hl : lv_has ls 5 [(0, .ref a_this), (1, .ref a_p1), (2, .ref a_p2), (3, .int v3)]) (hw : wX4_addEntries_6 p1_codes p1_length P n v3 outline strokes keys inWord word letters p2_outlines p2_words p2_size), W p l e (kR 4 86 0 0) s m ([.ref a_this, .ref a_p1, .ref a_p2] : List Value).toArray below meth c H locs 0 0 Q (F0 m 6 ls []) := by
    intro n
    induction n with
    | zero => intro _ _ _ _ _ _ _ _ _ _ _ _ _ V hl hw; exact hw.elim
    | succ n ih =>
      intro H locs ls v3 outline strokes keys inWord word letters p2_outlines p2_words p2_size V hl hw
      refine lv_iload_n hx hb dX4_addEntries_6 rfl (lv_at hl 3 rfl) ?_
      refine lv_aload_n hx hb dX4_addEntries_7 rfl (lv_at hl 1 rfl) ?_
      refine kget F V 0 1 1 rfl rfl iX4_addEntries_X0 fX4_addEntries_35 (by decide) rfl rfl dX4_addEntries_8 ?_
      refine lv_icmp_gt (tgt := 82) hx hb dX4_addEntries_11 (by decide) (fun c_11 => ?_) (fun c_11 => ?_)
      · have hw := hw.1 c_11
        refine lv_iconst (v := 1) hx hb dX4_addEntries_82 (by decide) ?_
        exact ret _ _ _ _ _ _ _ _ _ _ _ _ _ _ rfl dX4_addEntries_83 V hw
      · have hw := hw.2 c_11
        refine lv_iload_n hx hb dX4_addEntries_14 rfl (lv_at hl 3 rfl) ?_
        refine lv_aload_n hx hb dX4_addEntries_15 rfl (lv_at hl 1 rfl) ?_
        refine kget F V 0 1 1 rfl rfl iX4_addEntries_X0 fX4_addEntries_35 (by decide) rfl rfl dX4_addEntries_16 ?_
        refine lv_icmp_ge (tgt := 33) hx hb dX4_addEntries_19 (by decide) (fun c_19 => ?_) (fun c_19 => ?_)
        · have hw := hw.1 c_19
          refine lv_bipush (v := 59) hx hb dX4_addEntries_33 (by decide) ?_
          exact B35 (wX4_addEntries_6 p1_codes p1_length P n) ih v3 59 outline strokes keys inWord word letters p2_outlines p2_words p2_size V hl hw
        · have hw := hw.2 c_19
          refine lv_aload_n hx hb dX4_addEntries_22 rfl (lv_at hl 1 rfl) ?_
          refine kget F V 0 0 1 rfl rfl iX4_addEntries_X0 fX4_addEntries_40 (by decide) rfl rfl dX4_addEntries_23 ?_
          refine lv_iload_n hx hb dX4_addEntries_26 rfl (lv_at hl 3 rfl) ?_
          refine kSi0 (rest := []) F hl V [2] [0, 1, 3, 4, 5] [0, 1, 5, 2, 3, 4] (gX4 g a_this outline strokes keys inWord word letters ++ (gX0 g a_p1 a_p1_codes p1_codes p1_length ++ (gX1 g a_p2 a_p2_outlines a_p2_words p2_outlines p2_words p2_size))) (kX6_at l g a_p1_codes 60 p1_codes v3 _ hw) gX4_addEntries_X6_at rfl 2 rfl hdX6_at rfl rfl (fun _ => rfl) rfl rfl rfl (by decide) ⟨Nat.le_of_ble_eq_true rfl, Nat.le_of_ble_eq_true rfl⟩ ⟨Nat.le_of_ble_eq_true rfl, Nat.le_of_ble_eq_true rfl⟩ (Nat.le_of_ble_eq_true rfl) rfl dX4_addEntries_27 (fun r_27 H locs hw V => ?_)
          refine lv_goto (tgt := 35) hx hb dX4_addEntries_30 (by decide) ?_
          exact B35 (wX4_addEntries_6 p1_codes p1_length P n) ih v3 r_27 outline strokes keys inWord word letters p2_outlines p2_words p2_size V hl hw
  refine lv_aload_n hx hb dX4_addEntries_0 rfl (lv_at hl 0 rfl) ?_
  refine kVv6 (rest := []) F hl V [0] [1, 2, 3, 4, 5] [5, 0, 1, 2, 3, 4] (fun outline_1 strokes_1 keys_1 inWord_1 word_1 letters_1 => (gX4 g a_this outline_1 strokes_1 keys_1 inWord_1 word_1 letters_1 ++ (gX0 g a_p1 a_p1_codes p1_codes p1_length ++ (gX1 g a_p2 a_p2_outlines a_p2_words p2_outlines p2_words p2_size)))) a_this 3 0 rfl rfl (kX4_restart l g a_this outline strokes keys inWord word letters _ hw) gX4_addEntries_X4_restart rfl 0 rfl hdX4_restart rfl rfl (fun _ _ _ _ _ _ => rfl) rfl rfl rfl (by decide) ⟨Nat.le_of_ble_eq_true rfl, Nat.le_of_ble_eq_true rfl⟩ ⟨Nat.le_of_ble_eq_true rfl, Nat.le_of_ble_eq_true rfl⟩ (Nat.le_of_ble_eq_true rfl) rfl dX4_addEntries_1 (fun outline_1 strokes_1 keys_1 inWord_1 word_1 letters_1 H locs hw V => ?_)
  refine lv_iconst (v := 0) hx hb dX4_addEntries_4 (by decide) ?_
  refine lv_istore_n (lv' := [(3, .int 0), (0, .ref a_this), (1, .ref a_p1), (2, .ref a_p2)]) hx hb dX4_addEntries_5 rfl hl (by decide) rfl (fun ls hl => ?_)
  obtain ⟨n_6, hw⟩ := hw
  exact B6  n_6 0 outline_1 strokes_1 keys_1 inWord_1 word_1 letters_1 p2_outlines p2_words p2_size V (lv_sub hl [1, 2, 3, 0] rfl) hw
theorem hdX6_copy : yX6_copy.cls ≠ "java/lang/invoke/MethodHandle" ∧ yX6_copy.cls ≠ "java/lang/invoke/VarHandle" ∧ (parseMethodDescriptor yX6_copy.desc).map (fun d => d.parameters.length) = some 2 := by decide +kernel
def wX6_copy (p1_n : Nat) (p2_n : Nat) (p1 : Nat → Int32) (P : (Nat → Int32) → Prop) (p2 : Nat → Int32) : Prop := ¬ (if (nI p2_n) < (nI p1_n) then (nI p2_n) else (nI p1_n)) < 0 ∧ (if (nI p2_n) < (nI p1_n) then (nI p2_n) else (nI p1_n)).toNatClampNeg ≤ p1_n ∧ (if (nI p2_n) < (nI p1_n) then (nI p2_n) else (nI p1_n)).toNatClampNeg ≤ p2_n ∧ ∀ p2_11 : Nat → Int32, p2_11 = va_cpy p1 p2 0 0 (if (nI p2_n) < (nI p1_n) then (nI p2_n) else (nI p1_n)).toNatClampNeg → P p2_11
set_option maxHeartbeats 4000000 in
set_option maxRecDepth 100000 in
theorem kX6_copy (l : Launch) (g : kT) (a_p1 a_p2 : Nat) (p1_n : Nat) (p2_n : Nat) (p1 : Nat → Int32) (p2 : Nat → Int32) (P : (Nat → Int32) → Prop) (hw : wX6_copy p1_n p2_n p1 P p2) : Kv1 l g yX6_copy wsX6_copy 1 40 0 0 [.ref a_p1, .ref a_p2] (gAI g a_p1 p1_n p1 ++ (gAI g a_p2 p2_n p2)) P (fun p2 => (gAI g a_p1 p1_n p1 ++ (gAI g a_p2 p2_n p2))) := by
  refine Kv1.mk (cc := cX6_copy) (nL := 2) (by decide +kernel) rfl (Nat.le_of_ble_eq_true rfl) ?_
  intro p e s m below meth c A Q ls F hl V ret _
  have hx := F.x
  have hb := F.b
  have hl : lv_has ls 2 [(0, .ref a_p1), (1, .ref a_p2)] := hl
  refine lv_aload_n hx hb dX6_copy_0 rfl (lv_at hl 0 rfl) ?_
  refine lv_iconst (v := 0) hx hb dX6_copy_1 (by decide) ?_
  refine lv_aload_n hx hb dX6_copy_2 rfl (lv_at hl 1 rfl) ?_
  refine lv_iconst (v := 0) hx hb dX6_copy_3 (by decide) ?_
  refine lv_aload_n hx hb dX6_copy_4 rfl (lv_at hl 0 rfl) ?_
  refine kialen F V 0 rfl dX6_copy_5 ?_
  refine lv_aload_n hx hb dX6_copy_6 rfl (lv_at hl 1 rfl) ?_
  refine kialen F V 1 rfl dX6_copy_7 ?_
  refine va_mmin hx hb (F.ml.trans hl.1.symm) F.ow (F.ts (.methodLink RX6 7 Lib.Math.min.name) (by decide +kernel)) (F.ts (.static Lib.Math.min.name) (by decide +kernel)) (F.ts (.initialized "java/lang/Math") (by decide +kernel)) (F.ts (.code Lib.Math.min.name Lib.Math.min.code 2 (some .int)) (by decide +kernel)) (Nat.le_of_ble_eq_true rfl) (Nat.le_of_ble_eq_true rfl) (Nat.le_of_ble_eq_true rfl) (Nat.le_of_ble_eq_true rfl) dX6_copy_8 ?_
  refine va_copyi hx hb (F.ml.trans hl.1.symm) F.ow (F.ts (.methodLink RX6 13 arraycopyName) (by decide +kernel)) (F.ts (.native arraycopyName) (by decide +kernel)) (F.ts (.static arraycopyName) (by decide +kernel)) (F.ts (.initialized "java/lang/System") (by decide +kernel)) F.K V.1 V.2.1 V.2.2 0 1 0 0 rfl rfl rfl rfl rfl (by decide) (by decide) hw.1 (by rw [show (0 : Int32).toNatClampNeg = 0 from rfl, Nat.zero_add]; exact hw.2.1) (by rw [show (0 : Int32).toNatClampNeg = 0 from rfl, Nat.zero_add]; exact hw.2.2.1) (fun _ _ => rfl) (Nat.le_of_ble_eq_true rfl) (Nat.le_of_ble_eq_true rfl) dX6_copy_11 (fun H locs hP hD hS => ?_)
  obtain ⟨p2_11, ep2_11⟩ : ∃ f9, f9 = va_cpy p1 p2 0 0 (if (nI p2_n) < (nI p1_n) then (nI p2_n) else (nI p1_n)).toNatClampNeg := ⟨_, rfl⟩
  have hw := hw.2.2.2 p2_11 ep2_11
  have V : VW g A s.heap H locs (gAI g a_p1 p1_n p1 ++ (gAI g a_p2 p2_n p2_11)) := by rw [ep2_11]; exact ⟨hP, hD, hS⟩
  exact ret _ _ _ _ _ dX6_copy_14 V hw
theorem hdX7_copyFrom : yX7_copyFrom.cls = RX7 ∧ yX7_copyFrom.cls ≠ "java/lang/invoke/MethodHandle" ∧ yX7_copyFrom.cls ≠ "java/lang/invoke/VarHandle" ∧ (parseMethodDescriptor yX7_copyFrom.desc).map (fun d => d.parameters.length) = some 1 := by decide +kernel
theorem fX7_copyFrom_11 : Cond.fieldLink RX7 11 RX7 "strokes" "[I" ∈ wsX7_copyFrom := by decide +kernel
theorem iX7_copyFrom_X7 : ∀ w ∈ u_ws RX7 TX7 9, w ∈ wsX7_copyFrom := by decide +kernel
theorem fX7_copyFrom_15 : Cond.fieldLink RX7 15 RX7 "firsts" "[I" ∈ wsX7_copyFrom := by decide +kernel
theorem fX7_copyFrom_18 : Cond.fieldLink RX7 18 RX7 "entries" "[I" ∈ wsX7_copyFrom := by decide +kernel
theorem fX7_copyFrom_21 : Cond.fieldLink RX7 21 RX7 "words" "[J" ∈ wsX7_copyFrom := by decide +kernel
theorem fX7_copyFrom_25 : Cond.fieldLink RX7 25 RX7 "strokeCount" "I" ∈ wsX7_copyFrom := by decide +kernel
theorem fX7_copyFrom_29 : Cond.fieldLink RX7 29 RX7 "itemCount" "I" ∈ wsX7_copyFrom := by decide +kernel
theorem fX7_copyFrom_32 : Cond.fieldLink RX7 32 RX7 "fixedCount" "I" ∈ wsX7_copyFrom := by decide +kernel
theorem fX7_copyFrom_35 : Cond.fieldLink RX7 35 RX7 "firstOpen" "I" ∈ wsX7_copyFrom := by decide +kernel
theorem fX7_copyFrom_38 : Cond.fieldLink RX7 38 RX7 "window" "I" ∈ wsX7_copyFrom := by decide +kernel
def wX7_copyFrom (p1_strokes : Nat → Int32) (p1_firsts : Nat → Int32) (p1_entries : Nat → Int32) (p1_words : Nat → Int64) (p1_strokeCount : Int32) (p1_itemCount : Int32) (p1_fixedCount : Int32) (p1_firstOpen : Int32) (p1_window : Int32) (P : (Nat → Int32) → (Nat → Int32) → (Nat → Int32) → (Nat → Int64) → Int32 → Int32 → Int32 → Int32 → Int32 → Prop) (strokes : Nat → Int32) (firsts : Nat → Int32) (entries : Nat → Int32) (words : Nat → Int64) (strokeCount : Int32) (itemCount : Int32) (fixedCount : Int32) (firstOpen : Int32) (window : Int32) : Prop := wX6_copy 61 61 p1_strokes (fun strokes_8 => wX6_copy 61 61 p1_firsts (fun firsts_19 => wX6_copy 61 61 p1_entries (fun entries_30 => wX6_copy_ 61 61 p1_words (fun words_41 => P strokes_8 firsts_19 entries_30 words_41 p1_strokeCount p1_itemCount p1_fixedCount p1_firstOpen p1_window) words) entries) firsts) strokes
set_option maxHeartbeats 4000000 in
set_option maxRecDepth 100000 in
theorem kX7_copyFrom (l : Launch) (g : kT) (a_this a_this_strokes a_this_firsts a_this_entries a_this_words a_p1 a_p1_strokes a_p1_firsts a_p1_entries a_p1_words : Nat) (strokes : Nat → Int32) (firsts : Nat → Int32) (entries : Nat → Int32) (words : Nat → Int64) (strokeCount : Int32) (itemCount : Int32) (fixedCount : Int32) (firstOpen : Int32) (window : Int32) (p1_strokes : Nat → Int32) (p1_firsts : Nat → Int32) (p1_entries : Nat → Int32) (p1_words : Nat → Int64) (p1_strokeCount : Int32) (p1_itemCount : Int32) (p1_fixedCount : Int32) (p1_firstOpen : Int32) (p1_window : Int32) (P : (Nat → Int32) → (Nat → Int32) → (Nat → Int32) → (Nat → Int64) → Int32 → Int32 → Int32 → Int32 → Int32 → Prop) (hw : wX7_copyFrom p1_strokes p1_firsts p1_entries p1_words p1_strokeCount p1_itemCount p1_fixedCount p1_firstOpen p1_window P strokes firsts entries words strokeCount itemCount fixedCount firstOpen window) : Kv9 l g yX7_copyFrom wsX7_copyFrom 2 61 0 0 [.ref a_this, .ref a_p1] (gX7 g a_this a_this_strokes a_this_firsts a_this_entries a_this_words strokes firsts entries words strokeCount itemCount fixedCount firstOpen window ++ (gX7 g a_p1 a_p1_strokes a_p1_firsts a_p1_entries a_p1_words p1_strokes p1_firsts p1_entries p1_words p1_strokeCount p1_itemCount p1_fixedCount p1_firstOpen p1_window)) P (fun strokes firsts entries words strokeCount itemCount fixedCount firstOpen window => (gX7 g a_this a_this_strokes a_this_firsts a_this_entries a_this_words strokes firsts entries words strokeCount itemCount fixedCount firstOpen window ++ (gX7 g a_p1 a_p1_strokes a_p1_firsts a_p1_entries a_p1_words p1_strokes p1_firsts p1_entries p1_words p1_strokeCount p1_itemCount p1_fixedCount p1_firstOpen p1_window))) := by
  refine Kv9.mk (cc := cX7_copyFrom) (nL := 2) (by decide +kernel) rfl (Nat.le_of_ble_eq_true rfl) ?_
  intro p e s m below meth c A Q ls F hl V ret _
  have hx := F.x
  have hb := F.b
  have hl : lv_has ls 2 [(0, .ref a_this), (1, .ref a_p1)] := hl
  refine lv_aload_n hx hb dX7_copyFrom_0 rfl (lv_at hl 1 rfl) ?_
  refine kget F V 4 0 5 rfl rfl iX7_copyFrom_X7 fX7_copyFrom_11 (by decide) rfl rfl dX7_copyFrom_1 ?_
  refine lv_aload_n hx hb dX7_copyFrom_4 rfl (lv_at hl 0 rfl) ?_
  refine kget F V 4 0 0 rfl rfl iX7_copyFrom_X7 fX7_copyFrom_11 (by decide) rfl rfl dX7_copyFrom_5 ?_
  refine kSv1 (rest := []) F hl V [6, 1] [0, 2, 3, 4, 5, 7, 8, 9] [0, 9, 1, 2, 3, 4, 8, 5, 6, 7] (fun strokes_8 => (gX7 g a_this a_this_strokes a_this_firsts a_this_entries a_this_words strokes_8 firsts entries words strokeCount itemCount fixedCount firstOpen window ++ (gX7 g a_p1 a_p1_strokes a_p1_firsts a_p1_entries a_p1_words p1_strokes p1_firsts p1_entries p1_words p1_strokeCount p1_itemCount p1_fixedCount p1_firstOpen p1_window))) (kX6_copy l g a_p1_strokes a_this_strokes 61 61 p1_strokes strokes _ hw) gX7_copyFrom_X6_copy rfl 2 rfl hdX6_copy rfl rfl (fun _ => rfl) rfl rfl rfl (by decide) ⟨Nat.le_of_ble_eq_true rfl, Nat.le_of_ble_eq_true rfl⟩ ⟨Nat.le_of_ble_eq_true rfl, Nat.le_of_ble_eq_true rfl⟩ (Nat.le_of_ble_eq_true rfl) rfl dX7_copyFrom_8 (fun strokes_8 H locs hw V => ?_)
  refine lv_aload_n hx hb dX7_copyFrom_11 rfl (lv_at hl 1 rfl) ?_
  refine kget F V 4 1 5 rfl rfl iX7_copyFrom_X7 fX7_copyFrom_15 (by decide) rfl rfl dX7_copyFrom_12 ?_
  refine lv_aload_n hx hb dX7_copyFrom_15 rfl (lv_at hl 0 rfl) ?_
  refine kget F V 4 1 0 rfl rfl iX7_copyFrom_X7 fX7_copyFrom_15 (by decide) rfl rfl dX7_copyFrom_16 ?_
  refine kSv1 (rest := []) F hl V [7, 2] [0, 1, 3, 4, 5, 6, 8, 9] [0, 1, 9, 2, 3, 4, 5, 8, 6, 7] (fun firsts_19 => (gX7 g a_this a_this_strokes a_this_firsts a_this_entries a_this_words strokes_8 firsts_19 entries words strokeCount itemCount fixedCount firstOpen window ++ (gX7 g a_p1 a_p1_strokes a_p1_firsts a_p1_entries a_p1_words p1_strokes p1_firsts p1_entries p1_words p1_strokeCount p1_itemCount p1_fixedCount p1_firstOpen p1_window))) (kX6_copy l g a_p1_firsts a_this_firsts 61 61 p1_firsts firsts _ hw) gX7_copyFrom_X6_copy rfl 2 rfl hdX6_copy rfl rfl (fun _ => rfl) rfl rfl rfl (by decide) ⟨Nat.le_of_ble_eq_true rfl, Nat.le_of_ble_eq_true rfl⟩ ⟨Nat.le_of_ble_eq_true rfl, Nat.le_of_ble_eq_true rfl⟩ (Nat.le_of_ble_eq_true rfl) rfl dX7_copyFrom_19 (fun firsts_19 H locs hw V => ?_)
  refine lv_aload_n hx hb dX7_copyFrom_22 rfl (lv_at hl 1 rfl) ?_
  refine kget F V 4 2 5 rfl rfl iX7_copyFrom_X7 fX7_copyFrom_18 (by decide) rfl rfl dX7_copyFrom_23 ?_
  refine lv_aload_n hx hb dX7_copyFrom_26 rfl (lv_at hl 0 rfl) ?_
  refine kget F V 4 2 0 rfl rfl iX7_copyFrom_X7 fX7_copyFrom_18 (by decide) rfl rfl dX7_copyFrom_27 ?_
  refine kSv1 (rest := []) F hl V [8, 3] [0, 1, 2, 4, 5, 6, 7, 9] [0, 1, 2, 9, 3, 4, 5, 6, 8, 7] (fun entries_30 => (gX7 g a_this a_this_strokes a_this_firsts a_this_entries a_this_words strokes_8 firsts_19 entries_30 words strokeCount itemCount fixedCount firstOpen window ++ (gX7 g a_p1 a_p1_strokes a_p1_firsts a_p1_entries a_p1_words p1_strokes p1_firsts p1_entries p1_words p1_strokeCount p1_itemCount p1_fixedCount p1_firstOpen p1_window))) (kX6_copy l g a_p1_entries a_this_entries 61 61 p1_entries entries _ hw) gX7_copyFrom_X6_copy rfl 2 rfl hdX6_copy rfl rfl (fun _ => rfl) rfl rfl rfl (by decide) ⟨Nat.le_of_ble_eq_true rfl, Nat.le_of_ble_eq_true rfl⟩ ⟨Nat.le_of_ble_eq_true rfl, Nat.le_of_ble_eq_true rfl⟩ (Nat.le_of_ble_eq_true rfl) rfl dX7_copyFrom_30 (fun entries_30 H locs hw V => ?_)
  refine lv_aload_n hx hb dX7_copyFrom_33 rfl (lv_at hl 1 rfl) ?_
  refine kget F V 4 3 5 rfl rfl iX7_copyFrom_X7 fX7_copyFrom_21 (by decide) rfl rfl dX7_copyFrom_34 ?_
  refine lv_aload_n hx hb dX7_copyFrom_37 rfl (lv_at hl 0 rfl) ?_
  refine kget F V 4 3 0 rfl rfl iX7_copyFrom_X7 fX7_copyFrom_21 (by decide) rfl rfl dX7_copyFrom_38 ?_
  refine kSv1 (rest := []) F hl V [9, 4] [0, 1, 2, 3, 5, 6, 7, 8] [0, 1, 2, 3, 9, 4, 5, 6, 7, 8] (fun words_41 => (gX7 g a_this a_this_strokes a_this_firsts a_this_entries a_this_words strokes_8 firsts_19 entries_30 words_41 strokeCount itemCount fixedCount firstOpen window ++ (gX7 g a_p1 a_p1_strokes a_p1_firsts a_p1_entries a_p1_words p1_strokes p1_firsts p1_entries p1_words p1_strokeCount p1_itemCount p1_fixedCount p1_firstOpen p1_window))) (kX6_copy_ l g a_p1_words a_this_words 61 61 p1_words words _ hw) gX7_copyFrom_X6_copy_ rfl 2 rfl hdX6_copy_ rfl rfl (fun _ => rfl) rfl rfl rfl (by decide) ⟨Nat.le_of_ble_eq_true rfl, Nat.le_of_ble_eq_true rfl⟩ ⟨Nat.le_of_ble_eq_true rfl, Nat.le_of_ble_eq_true rfl⟩ (Nat.le_of_ble_eq_true rfl) rfl dX7_copyFrom_41 (fun words_41 H locs hw V => ?_)
  refine lv_aload_n hx hb dX7_copyFrom_44 rfl (lv_at hl 0 rfl) ?_
  refine lv_aload_n hx hb dX7_copyFrom_45 rfl (lv_at hl 1 rfl) ?_
  refine kget F V 4 4 5 rfl rfl iX7_copyFrom_X7 fX7_copyFrom_25 (by decide) rfl rfl dX7_copyFrom_46 ?_
  refine kput F V 4 4 0 tyX7_ok nmX7 rfl rfl iX7_copyFrom_X7 fX7_copyFrom_25 (by decide) rfl rfl rfl rfl (Nat.le_of_ble_eq_true rfl) dX7_copyFrom_49 (fun H locs V => ?_)
  have V : VW g A s.heap H locs (gX7 g a_this a_this_strokes a_this_firsts a_this_entries a_this_words strokes_8 firsts_19 entries_30 words_41 p1_strokeCount itemCount fixedCount firstOpen window ++ (gX7 g a_p1 a_p1_strokes a_p1_firsts a_p1_entries a_p1_words p1_strokes p1_firsts p1_entries p1_words p1_strokeCount p1_itemCount p1_fixedCount p1_firstOpen p1_window)) := V
  refine lv_aload_n hx hb dX7_copyFrom_52 rfl (lv_at hl 0 rfl) ?_
  refine lv_aload_n hx hb dX7_copyFrom_53 rfl (lv_at hl 1 rfl) ?_
  refine kget F V 4 5 5 rfl rfl iX7_copyFrom_X7 fX7_copyFrom_29 (by decide) rfl rfl dX7_copyFrom_54 ?_
  refine kput F V 4 5 0 tyX7_ok nmX7 rfl rfl iX7_copyFrom_X7 fX7_copyFrom_29 (by decide) rfl rfl rfl rfl (Nat.le_of_ble_eq_true rfl) dX7_copyFrom_57 (fun H locs V => ?_)
  have V : VW g A s.heap H locs (gX7 g a_this a_this_strokes a_this_firsts a_this_entries a_this_words strokes_8 firsts_19 entries_30 words_41 p1_strokeCount p1_itemCount fixedCount firstOpen window ++ (gX7 g a_p1 a_p1_strokes a_p1_firsts a_p1_entries a_p1_words p1_strokes p1_firsts p1_entries p1_words p1_strokeCount p1_itemCount p1_fixedCount p1_firstOpen p1_window)) := V
  refine lv_aload_n hx hb dX7_copyFrom_60 rfl (lv_at hl 0 rfl) ?_
  refine lv_aload_n hx hb dX7_copyFrom_61 rfl (lv_at hl 1 rfl) ?_
  refine kget F V 4 6 5 rfl rfl iX7_copyFrom_X7 fX7_copyFrom_32 (by decide) rfl rfl dX7_copyFrom_62 ?_
  refine kput F V 4 6 0 tyX7_ok nmX7 rfl rfl iX7_copyFrom_X7 fX7_copyFrom_32 (by decide) rfl rfl rfl rfl (Nat.le_of_ble_eq_true rfl) dX7_copyFrom_65 (fun H locs V => ?_)
  have V : VW g A s.heap H locs (gX7 g a_this a_this_strokes a_this_firsts a_this_entries a_this_words strokes_8 firsts_19 entries_30 words_41 p1_strokeCount p1_itemCount p1_fixedCount firstOpen window ++ (gX7 g a_p1 a_p1_strokes a_p1_firsts a_p1_entries a_p1_words p1_strokes p1_firsts p1_entries p1_words p1_strokeCount p1_itemCount p1_fixedCount p1_firstOpen p1_window)) := V
  refine lv_aload_n hx hb dX7_copyFrom_68 rfl (lv_at hl 0 rfl) ?_
  refine lv_aload_n hx hb dX7_copyFrom_69 rfl (lv_at hl 1 rfl) ?_
  refine kget F V 4 7 5 rfl rfl iX7_copyFrom_X7 fX7_copyFrom_35 (by decide) rfl rfl dX7_copyFrom_70 ?_
  refine kput F V 4 7 0 tyX7_ok nmX7 rfl rfl iX7_copyFrom_X7 fX7_copyFrom_35 (by decide) rfl rfl rfl rfl (Nat.le_of_ble_eq_true rfl) dX7_copyFrom_73 (fun H locs V => ?_)
  have V : VW g A s.heap H locs (gX7 g a_this a_this_strokes a_this_firsts a_this_entries a_this_words strokes_8 firsts_19 entries_30 words_41 p1_strokeCount p1_itemCount p1_fixedCount p1_firstOpen window ++ (gX7 g a_p1 a_p1_strokes a_p1_firsts a_p1_entries a_p1_words p1_strokes p1_firsts p1_entries p1_words p1_strokeCount p1_itemCount p1_fixedCount p1_firstOpen p1_window)) := V
  refine lv_aload_n hx hb dX7_copyFrom_76 rfl (lv_at hl 0 rfl) ?_
  refine lv_aload_n hx hb dX7_copyFrom_77 rfl (lv_at hl 1 rfl) ?_
  refine kget F V 4 8 5 rfl rfl iX7_copyFrom_X7 fX7_copyFrom_38 (by decide) rfl rfl dX7_copyFrom_78 ?_
  refine kput F V 4 8 0 tyX7_ok nmX7 rfl rfl iX7_copyFrom_X7 fX7_copyFrom_38 (by decide) rfl rfl rfl rfl (Nat.le_of_ble_eq_true rfl) dX7_copyFrom_81 (fun H locs V => ?_)
  have V : VW g A s.heap H locs (gX7 g a_this a_this_strokes a_this_firsts a_this_entries a_this_words strokes_8 firsts_19 entries_30 words_41 p1_strokeCount p1_itemCount p1_fixedCount p1_firstOpen p1_window ++ (gX7 g a_p1 a_p1_strokes a_p1_firsts a_p1_entries a_p1_words p1_strokes p1_firsts p1_entries p1_words p1_strokeCount p1_itemCount p1_fixedCount p1_firstOpen p1_window)) := V
  exact ret _ _ _ _ _ _ _ _ _ _ _ _ _ dX7_copyFrom_84 V hw
theorem hdX7_add : yX7_add.cls = RX7 ∧ yX7_add.cls ≠ "java/lang/invoke/MethodHandle" ∧ yX7_add.cls ≠ "java/lang/invoke/VarHandle" ∧ (parseMethodDescriptor yX7_add.desc).map (fun d => d.parameters.length) = some 1 := by decide +kernel
theorem fX7_add_11 : Cond.fieldLink RX7 11 RX7 "strokes" "[I" ∈ wsX7_add := by decide +kernel
theorem iX7_add_X7 : ∀ w ∈ u_ws RX7 TX7 9, w ∈ wsX7_add := by decide +kernel
theorem fX7_add_25 : Cond.fieldLink RX7 25 RX7 "strokeCount" "I" ∈ wsX7_add := by decide +kernel
def wX7_add (p1 : Int32) (P : (Nat → Int32) → Int32 → Prop) (strokes : Nat → Int32) (strokeCount : Int32) : Prop := wX6_put 61 strokeCount p1 (fun strokes_9 => ∀ strokeCount_19 : Int32, strokeCount_19 = (strokeCount + 1) → P strokes_9 strokeCount_19) strokes
set_option maxHeartbeats 4000000 in
set_option maxRecDepth 100000 in
theorem kX7_add (l : Launch) (g : kT) (a_this a_this_strokes a_this_firsts a_this_entries a_this_words : Nat) (strokes : Nat → Int32) (firsts : Nat → Int32) (entries : Nat → Int32) (words : Nat → Int64) (strokeCount : Int32) (itemCount : Int32) (fixedCount : Int32) (firstOpen : Int32) (window : Int32) (p1 : Int32) (P : (Nat → Int32) → Int32 → Prop) (hw : wX7_add p1 P strokes strokeCount) : Kv2 l g yX7_add wsX7_add 1 22 0 0 [.ref a_this, .int p1] (gX7 g a_this a_this_strokes a_this_firsts a_this_entries a_this_words strokes firsts entries words strokeCount itemCount fixedCount firstOpen window) P (fun strokes strokeCount => (gX7 g a_this a_this_strokes a_this_firsts a_this_entries a_this_words strokes firsts entries words strokeCount itemCount fixedCount firstOpen window)) := by
  refine Kv2.mk (cc := cX7_add) (nL := 2) (by decide +kernel) rfl (Nat.le_of_ble_eq_true rfl) ?_
  intro p e s m below meth c A Q ls F hl V ret _
  have hx := F.x
  have hb := F.b
  have hl : lv_has ls 2 [(0, .ref a_this), (1, .int p1)] := hl
  refine lv_aload_n hx hb dX7_add_0 rfl (lv_at hl 0 rfl) ?_
  refine kget F V 4 0 0 rfl rfl iX7_add_X7 fX7_add_11 (by decide) rfl rfl dX7_add_1 ?_
  refine lv_aload_n hx hb dX7_add_4 rfl (lv_at hl 0 rfl) ?_
  refine kget F V 4 4 0 rfl rfl iX7_add_X7 fX7_add_25 (by decide) rfl rfl dX7_add_5 ?_
  refine lv_iload_n hx hb dX7_add_8 rfl (lv_at hl 1 rfl) ?_
  refine kSv1 (rest := []) F hl V [1] [0, 2, 3, 4] [0, 4, 1, 2, 3] (fun strokes_9 => (gX7 g a_this a_this_strokes a_this_firsts a_this_entries a_this_words strokes_9 firsts entries words strokeCount itemCount fixedCount firstOpen window)) (kX6_put l g a_this_strokes 61 strokes strokeCount p1 _ hw) gX7_add_X6_put rfl 3 rfl hdX6_put rfl rfl (fun _ => rfl) rfl rfl rfl (by decide) ⟨Nat.le_of_ble_eq_true rfl, Nat.le_of_ble_eq_true rfl⟩ ⟨Nat.le_of_ble_eq_true rfl, Nat.le_of_ble_eq_true rfl⟩ (Nat.le_of_ble_eq_true rfl) rfl dX7_add_9 (fun strokes_9 H locs hw V => ?_)
  refine lv_aload_n hx hb dX7_add_12 rfl (lv_at hl 0 rfl) ?_
  refine lv_dup hx hb dX7_add_13 rfl ?_
  refine kget F V 4 4 0 rfl rfl iX7_add_X7 fX7_add_25 (by decide) rfl rfl dX7_add_14 ?_
  refine lv_iconst (v := 1) hx hb dX7_add_17 (by decide) ?_
  refine lv_iadd hx hb dX7_add_18 ?_
  refine lv_topi (fun strokeCount_19 estrokeCount_19 => ?_)
  have hw := hw strokeCount_19 estrokeCount_19
  refine kput F V 4 4 0 tyX7_ok nmX7 rfl rfl iX7_add_X7 fX7_add_25 (by decide) rfl rfl rfl rfl (Nat.le_of_ble_eq_true rfl) dX7_add_19 (fun H locs V => ?_)
  have V : VW g A s.heap H locs (gX7 g a_this a_this_strokes a_this_firsts a_this_entries a_this_words strokes_9 firsts entries words strokeCount_19 itemCount fixedCount firstOpen window) := V
  exact ret _ _ _ _ _ _ dX7_add_22 V hw
theorem hdX7_openStrokes : yX7_openStrokes.cls = RX7 ∧ yX7_openStrokes.cls ≠ "java/lang/invoke/MethodHandle" ∧ yX7_openStrokes.cls ≠ "java/lang/invoke/VarHandle" ∧ (parseMethodDescriptor yX7_openStrokes.desc).map (fun d => d.parameters.length) = some 0 := by decide +kernel
theorem fX7_openStrokes_25 : Cond.fieldLink RX7 25 RX7 "strokeCount" "I" ∈ wsX7_openStrokes := by decide +kernel
theorem iX7_openStrokes_X7 : ∀ w ∈ u_ws RX7 TX7 9, w ∈ wsX7_openStrokes := by decide +kernel
theorem fX7_openStrokes_35 : Cond.fieldLink RX7 35 RX7 "firstOpen" "I" ∈ wsX7_openStrokes := by decide +kernel
def wX7_openStrokes (strokeCount : Int32) (firstOpen : Int32) (P : Int32 → Prop) : Prop := P (strokeCount - firstOpen)
set_option maxHeartbeats 4000000 in
set_option maxRecDepth 100000 in
theorem kX7_openStrokes (l : Launch) (g : kT) (a_this a_this_strokes a_this_firsts a_this_entries a_this_words : Nat) (strokes : Nat → Int32) (firsts : Nat → Int32) (entries : Nat → Int32) (words : Nat → Int64) (strokeCount : Int32) (itemCount : Int32) (fixedCount : Int32) (firstOpen : Int32) (window : Int32) (P : Int32 → Prop) (hw : wX7_openStrokes strokeCount firstOpen P) : Ki0 l g yX7_openStrokes wsX7_openStrokes 0 0 0 0 [.ref a_this] (gX7 g a_this a_this_strokes a_this_firsts a_this_entries a_this_words strokes firsts entries words strokeCount itemCount fixedCount firstOpen window) P (gX7 g a_this a_this_strokes a_this_firsts a_this_entries a_this_words strokes firsts entries words strokeCount itemCount fixedCount firstOpen window) := by
  refine Ki0.mk (cc := cX7_openStrokes) (nL := 1) (ty := .int) (by decide +kernel) rfl (Nat.le_of_ble_eq_true rfl) ?_
  intro p e s m below meth c A Q ls F hl V ret
  have hx := F.x
  have hb := F.b
  have hl : lv_has ls 1 [(0, .ref a_this)] := hl
  refine lv_aload_n hx hb dX7_openStrokes_0 rfl (lv_at hl 0 rfl) ?_
  refine kget F V 4 4 0 rfl rfl iX7_openStrokes_X7 fX7_openStrokes_25 (by decide) rfl rfl dX7_openStrokes_1 ?_
  refine lv_aload_n hx hb dX7_openStrokes_4 rfl (lv_at hl 0 rfl) ?_
  refine kget F V 4 7 0 rfl rfl iX7_openStrokes_X7 fX7_openStrokes_35 (by decide) rfl rfl dX7_openStrokes_5 ?_
  refine lv_isub hx hb dX7_openStrokes_8 ?_
  exact ret _ _ _ _ _ rfl dX7_openStrokes_9 V hw
theorem hdX7_dropLast : yX7_dropLast.cls = RX7 ∧ yX7_dropLast.cls ≠ "java/lang/invoke/MethodHandle" ∧ yX7_dropLast.cls ≠ "java/lang/invoke/VarHandle" ∧ (parseMethodDescriptor yX7_dropLast.desc).map (fun d => d.parameters.length) = some 0 := by decide +kernel
theorem fX7_dropLast_32 : Cond.fieldLink RX7 32 RX7 "fixedCount" "I" ∈ wsX7_dropLast := by decide +kernel
theorem iX7_dropLast_X7 : ∀ w ∈ u_ws RX7 TX7 9, w ∈ wsX7_dropLast := by decide +kernel
theorem fX7_dropLast_15 : Cond.fieldLink RX7 15 RX7 "firsts" "[I" ∈ wsX7_dropLast := by decide +kernel
theorem fX7_dropLast_35 : Cond.fieldLink RX7 35 RX7 "firstOpen" "I" ∈ wsX7_dropLast := by decide +kernel
theorem fX7_dropLast_25 : Cond.fieldLink RX7 25 RX7 "strokeCount" "I" ∈ wsX7_dropLast := by decide +kernel
def wX7_dropLast_32 (firsts : Nat → Int32) (P : Int32 → Int32 → Int32 → Prop) (strokeCount : Int32) (fixedCount : Int32) (firstOpen : Int32) : Prop := ∀ strokeCount_39 : Int32, strokeCount_39 = (strokeCount - 1) → P strokeCount_39 fixedCount firstOpen
def wX7_dropLast (firsts : Nat → Int32) (P : Int32 → Int32 → Int32 → Prop) (strokeCount : Int32) (fixedCount : Int32) (firstOpen : Int32) : Prop := wX7_openStrokes strokeCount firstOpen (fun r_1 => (¬ r_1 = 0 → wX7_dropLast_32 firsts P strokeCount fixedCount firstOpen) ∧ (r_1 = 0 → ∀ fixedCount_14 : Int32, fixedCount_14 = (fixedCount - 1) → wX6_at 61 firsts fixedCount_14 (fun r_26 => wX7_dropLast_32 firsts P strokeCount fixedCount_14 r_26)))
set_option maxHeartbeats 4000000 in
set_option maxRecDepth 100000 in
theorem kX7_dropLast (l : Launch) (g : kT) (a_this a_this_strokes a_this_firsts a_this_entries a_this_words : Nat) (strokes : Nat → Int32) (firsts : Nat → Int32) (entries : Nat → Int32) (words : Nat → Int64) (strokeCount : Int32) (itemCount : Int32) (fixedCount : Int32) (firstOpen : Int32) (window : Int32) (P : Int32 → Int32 → Int32 → Prop) (hw : wX7_dropLast firsts P strokeCount fixedCount firstOpen) : Kv3 l g yX7_dropLast wsX7_dropLast 1 21 0 0 [.ref a_this] (gX7 g a_this a_this_strokes a_this_firsts a_this_entries a_this_words strokes firsts entries words strokeCount itemCount fixedCount firstOpen window) P (fun strokeCount fixedCount firstOpen => (gX7 g a_this a_this_strokes a_this_firsts a_this_entries a_this_words strokes firsts entries words strokeCount itemCount fixedCount firstOpen window)) := by
  refine Kv3.mk (cc := cX7_dropLast) (nL := 1) (by decide +kernel) rfl (Nat.le_of_ble_eq_true rfl) ?_
  intro p e s m below meth c A Q ls F hl V ret _
  have hx := F.x
  have hb := F.b
  have hl : lv_has ls 1 [(0, .ref a_this)] := hl
  have B32 :  ∀ {H : Heap} {locs : List Loc} {ls : Array Slot} (strokeCount : Int32) (fixedCount : Int32) (firstOpen : Int32) (V : VW g A s.heap H locs (gX7 g a_this a_this_strokes a_this_firsts a_this_entries a_this_words strokes firsts entries words strokeCount itemCount fixedCount firstOpen window)) (hl : lv_has ls 1 [(0, .ref a_this)]) (hw : wX7_dropLast_32 firsts P strokeCount fixedCount firstOpen), W p l e (kR 1 21 0 0) s m ([.ref a_this] : List Value).toArray below meth c H locs 0 0 Q (F0 m 32 ls []) := by
    intro  H locs ls strokeCount fixedCount firstOpen V hl hw
    refine lv_aload_n hx hb dX7_dropLast_32 rfl (lv_at hl 0 rfl) ?_
    refine lv_dup hx hb dX7_dropLast_33 rfl ?_
    refine kget F V 4 4 0 rfl rfl iX7_dropLast_X7 fX7_dropLast_25 (by decide) rfl rfl dX7_dropLast_34 ?_
    refine lv_iconst (v := 1) hx hb dX7_dropLast_37 (by decide) ?_
    refine lv_isub hx hb dX7_dropLast_38 ?_
    refine lv_topi (fun strokeCount_39 estrokeCount_39 => ?_)
    have hw := hw strokeCount_39 estrokeCount_39
    refine kput F V 4 4 0 tyX7_ok nmX7 rfl rfl iX7_dropLast_X7 fX7_dropLast_25 (by decide) rfl rfl rfl rfl (Nat.le_of_ble_eq_true rfl) dX7_dropLast_39 (fun H locs V => ?_)
    have V : VW g A s.heap H locs (gX7 g a_this a_this_strokes a_this_firsts a_this_entries a_this_words strokes firsts entries words strokeCount_39 itemCount fixedCount firstOpen window) := V
    exact ret _ _ _ _ _ _ _ dX7_dropLast_42 V hw
  refine lv_aload_n hx hb dX7_dropLast_0 rfl (lv_at hl 0 rfl) ?_
  refine kVi0 (rest := []) F hl V [0, 1, 2, 3, 4] [] [0, 1, 2, 3, 4] (gX7 g a_this a_this_strokes a_this_firsts a_this_entries a_this_words strokes firsts entries words strokeCount itemCount fixedCount firstOpen window) a_this 4 0 rfl rfl (kX7_openStrokes l g a_this a_this_strokes a_this_firsts a_this_entries a_this_words strokes firsts entries words strokeCount itemCount fixedCount firstOpen window _ hw) gX7_dropLast_X7_openStrokes rfl 0 rfl hdX7_openStrokes rfl rfl (fun _ => rfl) rfl rfl rfl (by decide) ⟨Nat.le_of_ble_eq_true rfl, Nat.le_of_ble_eq_true rfl⟩ ⟨Nat.le_of_ble_eq_true rfl, Nat.le_of_ble_eq_true rfl⟩ (Nat.le_of_ble_eq_true rfl) rfl dX7_dropLast_1 (fun r_1 H locs hw V => ?_)
  refine lv_if_ne (tgt := 32) hx hb dX7_dropLast_4 (by decide) (fun c_4 => ?_) (fun c_4 => ?_)
  · have hw := hw.1 c_4
    exact B32  strokeCount fixedCount firstOpen V hl hw
  · have hw := hw.2 c_4
    refine lv_aload_n hx hb dX7_dropLast_7 rfl (lv_at hl 0 rfl) ?_
    refine lv_dup hx hb dX7_dropLast_8 rfl ?_
    refine kget F V 4 6 0 rfl rfl iX7_dropLast_X7 fX7_dropLast_32 (by decide) rfl rfl dX7_dropLast_9 ?_
    refine lv_iconst (v := 1) hx hb dX7_dropLast_12 (by decide) ?_
    refine lv_isub hx hb dX7_dropLast_13 ?_
    refine lv_topi (fun fixedCount_14 efixedCount_14 => ?_)
    have hw := hw fixedCount_14 efixedCount_14
    refine kput F V 4 6 0 tyX7_ok nmX7 rfl rfl iX7_dropLast_X7 fX7_dropLast_32 (by decide) rfl rfl rfl rfl (Nat.le_of_ble_eq_true rfl) dX7_dropLast_14 (fun H locs V => ?_)
    have V : VW g A s.heap H locs (gX7 g a_this a_this_strokes a_this_firsts a_this_entries a_this_words strokes firsts entries words strokeCount itemCount fixedCount_14 firstOpen window) := V
    refine lv_aload_n hx hb dX7_dropLast_17 rfl (lv_at hl 0 rfl) ?_
    refine lv_aload_n hx hb dX7_dropLast_18 rfl (lv_at hl 0 rfl) ?_
    refine kget F V 4 1 0 rfl rfl iX7_dropLast_X7 fX7_dropLast_15 (by decide) rfl rfl dX7_dropLast_19 ?_
    refine lv_aload_n hx hb dX7_dropLast_22 rfl (lv_at hl 0 rfl) ?_
    refine kget F V 4 6 0 rfl rfl iX7_dropLast_X7 fX7_dropLast_32 (by decide) rfl rfl dX7_dropLast_23 ?_
    refine kSi0 (rest := [.ref a_this]) F hl V [2] [0, 1, 3, 4] [0, 1, 4, 2, 3] (gX7 g a_this a_this_strokes a_this_firsts a_this_entries a_this_words strokes firsts entries words strokeCount itemCount fixedCount_14 firstOpen window) (kX6_at l g a_this_firsts 61 firsts fixedCount_14 _ hw) gX7_dropLast_X6_at rfl 2 rfl hdX6_at rfl rfl (fun _ => rfl) rfl rfl rfl (by decide) ⟨Nat.le_of_ble_eq_true rfl, Nat.le_of_ble_eq_true rfl⟩ ⟨Nat.le_of_ble_eq_true rfl, Nat.le_of_ble_eq_true rfl⟩ (Nat.le_of_ble_eq_true rfl) rfl dX7_dropLast_26 (fun r_26 H locs hw V => ?_)
    refine kput F V 4 7 0 tyX7_ok nmX7 rfl rfl iX7_dropLast_X7 fX7_dropLast_35 (by decide) rfl rfl rfl rfl (Nat.le_of_ble_eq_true rfl) dX7_dropLast_29 (fun H locs V => ?_)
    have V : VW g A s.heap H locs (gX7 g a_this a_this_strokes a_this_firsts a_this_entries a_this_words strokes firsts entries words strokeCount itemCount fixedCount_14 r_26 window) := V
    exact B32  strokeCount fixedCount_14 r_26 V hl hw
theorem hdX7_fixDownTo : yX7_fixDownTo.cls = RX7 ∧ yX7_fixDownTo.cls ≠ "java/lang/invoke/MethodHandle" ∧ yX7_fixDownTo.cls ≠ "java/lang/invoke/VarHandle" ∧ (parseMethodDescriptor yX7_fixDownTo.desc).map (fun d => d.parameters.length) = some 1 := by decide +kernel
theorem fX7_fixDownTo_18 : Cond.fieldLink RX7 18 RX7 "entries" "[I" ∈ wsX7_fixDownTo := by decide +kernel
theorem iX7_fixDownTo_X7 : ∀ w ∈ u_ws RX7 TX7 9, w ∈ wsX7_fixDownTo := by decide +kernel
theorem fX7_fixDownTo_32 : Cond.fieldLink RX7 32 RX7 "fixedCount" "I" ∈ wsX7_fixDownTo := by decide +kernel
theorem fX7_fixDownTo_35 : Cond.fieldLink RX7 35 RX7 "firstOpen" "I" ∈ wsX7_fixDownTo := by decide +kernel
def wX7_fixDownTo_2 (firsts : Nat → Int32) (strokeCount : Int32) (itemCount : Int32) (p1 : Int32) (P : (Nat → Int32) → Int32 → Int32 → Prop) : Nat → Int32 → (Nat → Int32) → Int32 → Int32 → Prop
  | 0, _, _, _, _ => False
  | n + 1, v2, entries, fixedCount, firstOpen => (61 ≤ v2 → P entries fixedCount firstOpen) ∧ (¬ (61 ≤ v2) → wX7_openStrokes strokeCount firstOpen (fun r_9 => (r_9 ≤ p1 → P entries fixedCount firstOpen) ∧ (¬ (r_9 ≤ p1) → wX6_put 61 fixedCount (-1) (fun entries_25 => ∀ fixedCount_35 : Int32, fixedCount_35 = (fixedCount + 1) → wX7_firstOf firsts strokeCount itemCount fixedCount_35 (fun r_44 => (wX7_fixDownTo_2 firsts strokeCount itemCount p1 P n) (v2 + 1) entries_25 fixedCount_35 r_44)) entries)))
def wX7_fixDownTo (firsts : Nat → Int32) (strokeCount : Int32) (itemCount : Int32) (p1 : Int32) (P : (Nat → Int32) → Int32 → Int32 → Prop) (entries : Nat → Int32) (fixedCount : Int32) (firstOpen : Int32) : Prop := ∃ n_2, wX7_fixDownTo_2 firsts strokeCount itemCount p1 P n_2 0 entries fixedCount firstOpen
set_option maxHeartbeats 4000000 in
set_option maxRecDepth 100000 in
theorem kX7_fixDownTo (l : Launch) (g : kT) (a_this a_this_strokes a_this_firsts a_this_entries a_this_words : Nat) (strokes : Nat → Int32) (firsts : Nat → Int32) (entries : Nat → Int32) (words : Nat → Int64) (strokeCount : Int32) (itemCount : Int32) (fixedCount : Int32) (firstOpen : Int32) (window : Int32) (p1 : Int32) (P : (Nat → Int32) → Int32 → Int32 → Prop) (hw : wX7_fixDownTo firsts strokeCount itemCount p1 P entries fixedCount firstOpen) : Kv3 l g yX7_fixDownTo wsX7_fixDownTo 2 42 0 0 [.ref a_this, .int p1] (gX7 g a_this a_this_strokes a_this_firsts a_this_entries a_this_words strokes firsts entries words strokeCount itemCount fixedCount firstOpen window) P (fun entries fixedCount firstOpen => (gX7 g a_this a_this_strokes a_this_firsts a_this_entries a_this_words strokes firsts entries words strokeCount itemCount fixedCount firstOpen window)) := by
  refine Kv3.mk (cc := cX7_fixDownTo) (nL := 3) (by decide +kernel) rfl (Nat.le_of_ble_eq_true rfl) ?_
  intro p e s m below meth c A Q ls F hl V ret _
  have hx := F.x
  have hb := F.b
  have hl : lv_has ls 3 [(0, .ref a_this), (1, .int p1)] := hl
  have B2 :  ∀ (n : Nat), ∀ {H : Heap} {locs : List Loc} {ls : Array Slot} (v2 : Int32) (entries : Nat → Int32) (fixedCount : Int32) (firstOpen : Int32) (V : VW g A s.heap H locs (gX7 g a_this a_this_strokes a_this_firsts a_this_entries a_this_words strokes firsts entries words strokeCount itemCount fixedCount firstOpen window)) (hl : lv_has ls 3 [(0, .ref a_this), (1, .int p1), (2, .int v2)]) (hw : wX7_fixDownTo_2 firsts strokeCount itemCount p1 P n v2 entries fixedCount firstOpen), W p l e (kR 2 42 0 0) s m ([.ref a_this, .int p1] : List Value).toArray below meth c H locs 0 0 Q (F0 m 2 ls []) := by
    intro n
    induction n with
    | zero => intro _ _ _ _ _ _ _ V hl hw; exact hw.elim
    | succ n ih =>
      intro H locs ls v2 entries fixedCount firstOpen V hl hw
      refine lv_iload_n hx hb dX7_fixDownTo_2 rfl (lv_at hl 2 rfl) ?_
      refine lv_bipush (v := 61) hx hb dX7_fixDownTo_3 (by decide) ?_
      refine lv_icmp_ge (tgt := 56) hx hb dX7_fixDownTo_5 (by decide) (fun c_5 => ?_) (fun c_5 => ?_)
      · have hw := hw.1 c_5
        exact ret _ _ _ _ _ _ _ dX7_fixDownTo_56 V hw
      · have hw := hw.2 c_5
        refine lv_aload_n hx hb dX7_fixDownTo_8 rfl (lv_at hl 0 rfl) ?_
        refine kVi0 (rest := []) F hl V [0, 1, 2, 3, 4] [] [0, 1, 2, 3, 4] (gX7 g a_this a_this_strokes a_this_firsts a_this_entries a_this_words strokes firsts entries words strokeCount itemCount fixedCount firstOpen window) a_this 4 0 rfl rfl (kX7_openStrokes l g a_this a_this_strokes a_this_firsts a_this_entries a_this_words strokes firsts entries words strokeCount itemCount fixedCount firstOpen window _ hw) gX7_fixDownTo_X7_openStrokes rfl 0 rfl hdX7_openStrokes rfl rfl (fun _ => rfl) rfl rfl rfl (by decide) ⟨Nat.le_of_ble_eq_true rfl, Nat.le_of_ble_eq_true rfl⟩ ⟨Nat.le_of_ble_eq_true rfl, Nat.le_of_ble_eq_true rfl⟩ (Nat.le_of_ble_eq_true rfl) rfl dX7_fixDownTo_9 (fun r_9 H locs hw V => ?_)
        refine lv_iload_n hx hb dX7_fixDownTo_12 rfl (lv_at hl 1 rfl) ?_
        refine lv_icmp_le (tgt := 56) hx hb dX7_fixDownTo_13 (by decide) (fun c_13 => ?_) (fun c_13 => ?_)
        · have hw := hw.1 c_13
          exact ret _ _ _ _ _ _ _ dX7_fixDownTo_56 V hw
        · have hw := hw.2 c_13
          refine lv_aload_n hx hb dX7_fixDownTo_16 rfl (lv_at hl 0 rfl) ?_
          refine kget F V 4 2 0 rfl rfl iX7_fixDownTo_X7 fX7_fixDownTo_18 (by decide) rfl rfl dX7_fixDownTo_17 ?_
          refine lv_aload_n hx hb dX7_fixDownTo_20 rfl (lv_at hl 0 rfl) ?_
          refine kget F V 4 6 0 rfl rfl iX7_fixDownTo_X7 fX7_fixDownTo_32 (by decide) rfl rfl dX7_fixDownTo_21 ?_
          refine lv_iconst (v := (-1)) hx hb dX7_fixDownTo_24 (by decide) ?_
          refine kSv1 (rest := []) F hl V [3] [0, 1, 2, 4] [0, 1, 2, 4, 3] (fun entries_25 => (gX7 g a_this a_this_strokes a_this_firsts a_this_entries a_this_words strokes firsts entries_25 words strokeCount itemCount fixedCount firstOpen window)) (kX6_put l g a_this_entries 61 entries fixedCount (-1) _ hw) gX7_fixDownTo_X6_put rfl 3 rfl hdX6_put rfl rfl (fun _ => rfl) rfl rfl rfl (by decide) ⟨Nat.le_of_ble_eq_true rfl, Nat.le_of_ble_eq_true rfl⟩ ⟨Nat.le_of_ble_eq_true rfl, Nat.le_of_ble_eq_true rfl⟩ (Nat.le_of_ble_eq_true rfl) rfl dX7_fixDownTo_25 (fun entries_25 H locs hw V => ?_)
          refine lv_aload_n hx hb dX7_fixDownTo_28 rfl (lv_at hl 0 rfl) ?_
          refine lv_dup hx hb dX7_fixDownTo_29 rfl ?_
          refine kget F V 4 6 0 rfl rfl iX7_fixDownTo_X7 fX7_fixDownTo_32 (by decide) rfl rfl dX7_fixDownTo_30 ?_
          refine lv_iconst (v := 1) hx hb dX7_fixDownTo_33 (by decide) ?_
          refine lv_iadd hx hb dX7_fixDownTo_34 ?_
          refine lv_topi (fun fixedCount_35 efixedCount_35 => ?_)
          have hw := hw fixedCount_35 efixedCount_35
          refine kput F V 4 6 0 tyX7_ok nmX7 rfl rfl iX7_fixDownTo_X7 fX7_fixDownTo_32 (by decide) rfl rfl rfl rfl (Nat.le_of_ble_eq_true rfl) dX7_fixDownTo_35 (fun H locs V => ?_)
          have V : VW g A s.heap H locs (gX7 g a_this a_this_strokes a_this_firsts a_this_entries a_this_words strokes firsts entries_25 words strokeCount itemCount fixedCount_35 firstOpen window) := V
          refine lv_aload_n hx hb dX7_fixDownTo_38 rfl (lv_at hl 0 rfl) ?_
          refine lv_aload_n hx hb dX7_fixDownTo_39 rfl (lv_at hl 0 rfl) ?_
          refine lv_aload_n hx hb dX7_fixDownTo_40 rfl (lv_at hl 0 rfl) ?_
          refine kget F V 4 6 0 rfl rfl iX7_fixDownTo_X7 fX7_fixDownTo_32 (by decide) rfl rfl dX7_fixDownTo_41 ?_
          refine kVi0 (rest := [.ref a_this]) F hl V [0, 1, 2, 3, 4] [] [0, 1, 2, 3, 4] (gX7 g a_this a_this_strokes a_this_firsts a_this_entries a_this_words strokes firsts entries_25 words strokeCount itemCount fixedCount_35 firstOpen window) a_this 4 0 rfl rfl (kX7_firstOf l g a_this a_this_strokes a_this_firsts a_this_entries a_this_words strokes firsts entries_25 words strokeCount itemCount fixedCount_35 firstOpen window fixedCount_35 _ hw) gX7_fixDownTo_X7_firstOf rfl 1 rfl hdX7_firstOf rfl rfl (fun _ => rfl) rfl rfl rfl (by decide) ⟨Nat.le_of_ble_eq_true rfl, Nat.le_of_ble_eq_true rfl⟩ ⟨Nat.le_of_ble_eq_true rfl, Nat.le_of_ble_eq_true rfl⟩ (Nat.le_of_ble_eq_true rfl) rfl dX7_fixDownTo_44 (fun r_44 H locs hw V => ?_)
          refine kput F V 4 7 0 tyX7_ok nmX7 rfl rfl iX7_fixDownTo_X7 fX7_fixDownTo_35 (by decide) rfl rfl rfl rfl (Nat.le_of_ble_eq_true rfl) dX7_fixDownTo_47 (fun H locs V => ?_)
          have V : VW g A s.heap H locs (gX7 g a_this a_this_strokes a_this_firsts a_this_entries a_this_words strokes firsts entries_25 words strokeCount itemCount fixedCount_35 r_44 window) := V
          refine lv_iinc (v := v2 + 1) (lv' := [(2, .int (v2 + 1)), (0, .ref a_this), (1, .int p1)]) hx hb dX7_fixDownTo_50 hl (k := 2) rfl rfl (by decide) rfl (fun ls hl => ?_)
          refine lv_goto (tgt := 2) hx hb dX7_fixDownTo_53 (by decide) ?_
          exact ih (v2 + 1) entries_25 fixedCount_35 r_44 V (lv_sub hl [1, 2, 0] rfl) hw
  refine lv_iconst (v := 0) hx hb dX7_fixDownTo_0 (by decide) ?_
  refine lv_istore_n (lv' := [(2, .int 0), (0, .ref a_this), (1, .int p1)]) hx hb dX7_fixDownTo_1 rfl hl (by decide) rfl (fun ls hl => ?_)
  obtain ⟨n_2, hw⟩ := hw
  exact B2  n_2 0 entries fixedCount firstOpen V (lv_sub hl [1, 2, 0] rfl) hw
theorem hdX7_translate : yX7_translate.cls = RX7 ∧ yX7_translate.cls ≠ "java/lang/invoke/MethodHandle" ∧ yX7_translate.cls ≠ "java/lang/invoke/VarHandle" ∧ (parseMethodDescriptor yX7_translate.desc).map (fun d => d.parameters.length) = some 1 := by decide +kernel
theorem fX7_translate_32 : Cond.fieldLink RX7 32 RX7 "fixedCount" "I" ∈ wsX7_translate := by decide +kernel
theorem iX7_translate_X7 : ∀ w ∈ u_ws RX7 TX7 9, w ∈ wsX7_translate := by decide +kernel
theorem fX7_translate_29 : Cond.fieldLink RX7 29 RX7 "itemCount" "I" ∈ wsX7_translate := by decide +kernel
theorem fX7_translate_35 : Cond.fieldLink RX7 35 RX7 "firstOpen" "I" ∈ wsX7_translate := by decide +kernel
theorem fX7_translate_25 : Cond.fieldLink RX7 25 RX7 "strokeCount" "I" ∈ wsX7_translate := by decide +kernel
theorem fX7_translate_11 : Cond.fieldLink RX7 11 RX7 "strokes" "[I" ∈ wsX7_translate := by decide +kernel
theorem fX7_translate_15 : Cond.fieldLink RX7 15 RX7 "firsts" "[I" ∈ wsX7_translate := by decide +kernel
theorem fX7_translate_18 : Cond.fieldLink RX7 18 RX7 "entries" "[I" ∈ wsX7_translate := by decide +kernel
theorem fX7_translate_21 : Cond.fieldLink RX7 21 RX7 "words" "[J" ∈ wsX7_translate := by decide +kernel
theorem fX7_translate_38 : Cond.fieldLink RX7 38 RX7 "window" "I" ∈ wsX7_translate := by decide +kernel
def wX7_translate_134 (strokes : Nat → Int32) (strokeCount : Int32) (window : Int32) (p1_outlines : Nat → Int64) (p1_words : Nat → Int64) (p1_size : Int32) (P : (Nat → Int32) → (Nat → Int32) → (Nat → Int64) → Int32 → Int32 → Int32 → Prop) (firsts : Nat → Int32) (entries : Nat → Int32) (words : Nat → Int64) (itemCount : Int32) (fixedCount : Int32) (firstOpen : Int32) : Prop := wX7_fixDownTo firsts strokeCount itemCount window (fun entries_139 fixedCount_139 firstOpen_139 => P firsts entries_139 words itemCount fixedCount_139 firstOpen_139) entries fixedCount firstOpen
def wX7_translate_126 (strokes : Nat → Int32) (strokeCount : Int32) (window : Int32) (p1_outlines : Nat → Int64) (p1_words : Nat → Int64) (p1_size : Int32) (K15 : Int32 → Int32 → (Nat → Int32) → (Nat → Int32) → (Nat → Int64) → Int32 → Int32 → Int32 → Prop) (P : (Nat → Int32) → (Nat → Int32) → (Nat → Int64) → Int32 → Int32 → Int32 → Prop) (v3 : Int32) (s0 : Int32) (s1 : Int32) (firsts : Nat → Int32) (entries : Nat → Int32) (words : Nat → Int64) (itemCount : Int32) (fixedCount : Int32) (firstOpen : Int32) : Prop := ∀ v2_127 : Int32, v2_127 = (s0 + s1) → K15 v2_127 (v3 + 1) firsts entries words itemCount fixedCount firstOpen
def wX7_translate_93 (strokes : Nat → Int32) (strokeCount : Int32) (window : Int32) (p1_outlines : Nat → Int64) (p1_words : Nat → Int64) (p1_size : Int32) (K15 : Int32 → Int32 → (Nat → Int32) → (Nat → Int32) → (Nat → Int64) → Int32 → Int32 → Int32 → Prop) (P : (Nat → Int32) → (Nat → Int32) → (Nat → Int64) → Int32 → Int32 → Int32 → Prop) (v2 : Int32) (v3 : Int32) (v4 : Int32) (s1 : Int32) (s2 : Int64) (firsts : Nat → Int32) (entries : Nat → Int32) (words : Nat → Int64) (itemCount : Int32) (fixedCount : Int32) (firstOpen : Int32) : Prop := wX6_put_ 61 s1 s2 (fun words_93 => ∀ itemCount_103 : Int32, itemCount_103 = (itemCount + 1) → (¬ v4 = (-1) → wX1_outlineOf p1_outlines v4 (fun r_120 => wX5_length r_120 (fun r_123 => wX7_translate_126 strokes strokeCount window p1_outlines p1_words p1_size K15 P v3 v2 r_123 firsts entries words_93 itemCount_103 fixedCount firstOpen))) ∧ (v4 = (-1) → wX7_translate_126 strokes strokeCount window p1_outlines p1_words p1_size K15 P v3 v2 1 firsts entries words_93 itemCount_103 fixedCount firstOpen)) words
def wX7_translate_15 (strokes : Nat → Int32) (strokeCount : Int32) (window : Int32) (p1_outlines : Nat → Int64) (p1_words : Nat → Int64) (p1_size : Int32) (P : (Nat → Int32) → (Nat → Int32) → (Nat → Int64) → Int32 → Int32 → Int32 → Prop) : Nat → Int32 → Int32 → (Nat → Int32) → (Nat → Int32) → (Nat → Int64) → Int32 → Int32 → Int32 → Prop
  | 0, _, _, _, _, _, _, _, _ => False
  | n + 1, v2, v3, firsts, entries, words, itemCount, fixedCount, firstOpen => (61 ≤ v3 → wX7_translate_134 strokes strokeCount window p1_outlines p1_words p1_size P firsts entries words itemCount fixedCount firstOpen) ∧ (¬ (61 ≤ v3) → (strokeCount ≤ v2 → wX7_translate_134 strokes strokeCount window p1_outlines p1_words p1_size P firsts entries words itemCount fixedCount firstOpen) ∧ (¬ (strokeCount ≤ v2) → wX1_longestAt 61 p1_outlines p1_size strokes v2 strokeCount (fun r_39 => wX6_put 61 itemCount v2 (fun firsts_53 => wX6_put 61 itemCount r_39 (fun entries_66 => (¬ r_39 = (-1) → wX1_wordOf p1_words r_39 (fun r_90 => wX7_translate_93 strokes strokeCount window p1_outlines p1_words p1_size (wX7_translate_15 strokes strokeCount window p1_outlines p1_words p1_size P n) P v2 v3 r_39 itemCount r_90 firsts_53 entries_66 words itemCount fixedCount firstOpen)) ∧ (r_39 = (-1) → wX7_translate_93 strokes strokeCount window p1_outlines p1_words p1_size (wX7_translate_15 strokes strokeCount window p1_outlines p1_words p1_size P n) P v2 v3 r_39 itemCount 0 firsts_53 entries_66 words itemCount fixedCount firstOpen)) entries) firsts)))
def wX7_translate (strokes : Nat → Int32) (strokeCount : Int32) (window : Int32) (p1_outlines : Nat → Int64) (p1_words : Nat → Int64) (p1_size : Int32) (P : (Nat → Int32) → (Nat → Int32) → (Nat → Int64) → Int32 → Int32 → Int32 → Prop) (firsts : Nat → Int32) (entries : Nat → Int32) (words : Nat → Int64) (itemCount : Int32) (fixedCount : Int32) (firstOpen : Int32) : Prop := ∃ n_15, wX7_translate_15 strokes strokeCount window p1_outlines p1_words p1_size P n_15 firstOpen 0 firsts entries words fixedCount fixedCount firstOpen
set_option maxHeartbeats 4000000 in
set_option maxRecDepth 100000 in
theorem kX7_translate (l : Launch) (g : kT) (a_this a_this_strokes a_this_firsts a_this_entries a_this_words a_p1 a_p1_outlines a_p1_words : Nat) (strokes : Nat → Int32) (firsts : Nat → Int32) (entries : Nat → Int32) (words : Nat → Int64) (strokeCount : Int32) (itemCount : Int32) (fixedCount : Int32) (firstOpen : Int32) (window : Int32) (p1_outlines : Nat → Int64) (p1_words : Nat → Int64) (p1_size : Int32) (P : (Nat → Int32) → (Nat → Int32) → (Nat → Int64) → Int32 → Int32 → Int32 → Prop) (hw : wX7_translate strokes strokeCount window p1_outlines p1_words p1_size P firsts entries words itemCount fixedCount firstOpen) : Kv6 l g yX7_translate wsX7_translate 3 76 0 0 [.ref a_this, .ref a_p1] (gX7 g a_this a_this_strokes a_this_firsts a_this_entries a_this_words strokes firsts entries words strokeCount itemCount fixedCount firstOpen window ++ (gX1 g a_p1 a_p1_outlines a_p1_words p1_outlines p1_words p1_size)) P (fun firsts entries words itemCount fixedCount firstOpen => (gX7 g a_this a_this_strokes a_this_firsts a_this_entries a_this_words strokes firsts entries words strokeCount itemCount fixedCount firstOpen window ++ (gX1 g a_p1 a_p1_outlines a_p1_words p1_outlines p1_words p1_size))) := by
  refine Kv6.mk (cc := cX7_translate) (nL := 5) (by decide +kernel) rfl (Nat.le_of_ble_eq_true rfl) ?_
  intro p e s m below meth c A Q ls F hl V ret _
  have hx := F.x
  have hb := F.b
  have hl : lv_has ls 5 [(0, .ref a_this), (1, .ref a_p1)] := hl
  have B134 :  ∀ {H : Heap} {locs : List Loc} {ls : Array Slot} (firsts : Nat → Int32) (entries : Nat → Int32) (words : Nat → Int64) (itemCount : Int32) (fixedCount : Int32) (firstOpen : Int32) (V : VW g A s.heap H locs (gX7 g a_this a_this_strokes a_this_firsts a_this_entries a_this_words strokes firsts entries words strokeCount itemCount fixedCount firstOpen window ++ (gX1 g a_p1 a_p1_outlines a_p1_words p1_outlines p1_words p1_size))) (hl : lv_has ls 5 [(0, .ref a_this)]) (hw : wX7_translate_134 strokes strokeCount window p1_outlines p1_words p1_size P firsts entries words itemCount fixedCount firstOpen), W p l e (kR 3 76 0 0) s m ([.ref a_this, .ref a_p1] : List Value).toArray below meth c H locs 0 0 Q (F0 m 134 ls []) := by
    intro  H locs ls firsts entries words itemCount fixedCount firstOpen V hl hw
    refine lv_aload_n hx hb dX7_translate_134 rfl (lv_at hl 0 rfl) ?_
    refine lv_aload_n hx hb dX7_translate_135 rfl (lv_at hl 0 rfl) ?_
    refine kget F V 4 8 0 rfl rfl iX7_translate_X7 fX7_translate_38 (by decide) rfl rfl dX7_translate_136 ?_
    refine kVv3 (rest := []) F hl V [0, 1, 2, 3, 4] [5, 6, 7] [3, 4, 5, 6, 7, 0, 1, 2] (fun entries_139 fixedCount_139 firstOpen_139 => (gX7 g a_this a_this_strokes a_this_firsts a_this_entries a_this_words strokes firsts entries_139 words strokeCount itemCount fixedCount_139 firstOpen_139 window ++ (gX1 g a_p1 a_p1_outlines a_p1_words p1_outlines p1_words p1_size))) a_this 4 0 rfl rfl (kX7_fixDownTo l g a_this a_this_strokes a_this_firsts a_this_entries a_this_words strokes firsts entries words strokeCount itemCount fixedCount firstOpen window window _ hw) gX7_translate_X7_fixDownTo rfl 1 rfl hdX7_fixDownTo rfl rfl (fun _ _ _ => rfl) rfl rfl rfl (by decide) ⟨Nat.le_of_ble_eq_true rfl, Nat.le_of_ble_eq_true rfl⟩ ⟨Nat.le_of_ble_eq_true rfl, Nat.le_of_ble_eq_true rfl⟩ (Nat.le_of_ble_eq_true rfl) rfl dX7_translate_139 (fun entries_139 fixedCount_139 firstOpen_139 H locs hw V => ?_)
    exact ret _ _ _ _ _ _ _ _ _ _ dX7_translate_142 V hw
  have B126 : ∀ (K15 : Int32 → Int32 → (Nat → Int32) → (Nat → Int32) → (Nat → Int64) → Int32 → Int32 → Int32 → Prop) (k15 : ∀ {H : Heap} {locs : List Loc} {ls : Array Slot} (v2 : Int32) (v3 : Int32) (firsts : Nat → Int32) (entries : Nat → Int32) (words : Nat → Int64) (itemCount : Int32) (fixedCount : Int32) (firstOpen : Int32), VW g A s.heap H locs (gX7 g a_this a_this_strokes a_this_firsts a_this_entries a_this_words strokes firsts entries words strokeCount itemCount fixedCount firstOpen window ++ (gX1 g a_p1 a_p1_outlines a_p1_words p1_outlines p1_words p1_size)) → lv_has ls 5 [(0, .ref a_this), (1, .ref a_p1), (2, .int v2), (3, .int v3)] → K15 v2 v3 firsts entries words itemCount fixedCount firstOpen → W p l e (kR 3 76 0 0) s m ([.ref a_this, .ref a_p1] : List Value).toArray below meth c H locs 0 0 Q (F0 m 15 ls [])), ∀ {H : Heap} {locs : List Loc} {ls : Array Slot} (v3 : Int32) (s0 : Int32) (s1 : Int32) (firsts : Nat → Int32) (entries : Nat → Int32) (words : Nat → Int64) (itemCount : Int32) (fixedCount : Int32) (firstOpen : Int32) (V : VW g A s.heap H locs (gX7 g a_this a_this_strokes a_this_firsts a_this_entries a_this_words strokes firsts entries words strokeCount itemCount fixedCount firstOpen window ++ (gX1 g a_p1 a_p1_outlines a_p1_words p1_outlines p1_words p1_size))) (hl : lv_has ls 5 [(0, .ref a_this), (1, .ref a_p1), (3, .int v3)]) (hw : wX7_translate_126 strokes strokeCount window p1_outlines p1_words p1_size K15 P v3 s0 s1 firsts entries words itemCount fixedCount firstOpen), W p l e (kR 3 76 0 0) s m ([.ref a_this, .ref a_p1] : List Value).toArray below meth c H locs 0 0 Q (F0 m 126 ls [.int s1, .int s0]) := by
    intro K15 k15 H locs ls v3 s0 s1 firsts entries words itemCount fixedCount firstOpen V hl hw
    refine lv_iadd hx hb dX7_translate_126 ?_
    refine lv_topi (fun v2_127 ev2_127 => ?_)
    have hw := hw v2_127 ev2_127
    refine lv_istore_n (lv' := [(2, .int v2_127), (0, .ref a_this), (1, .ref a_p1), (3, .int v3)]) hx hb dX7_translate_127 rfl hl (by decide) rfl (fun ls hl => ?_)
    refine lv_iinc (v := v3 + 1) (lv' := [(3, .int (v3 + 1)), (2, .int v2_127), (0, .ref a_this), (1, .ref a_p1)]) hx hb dX7_translate_128 hl (k := 3) rfl rfl (by decide) rfl (fun ls hl => ?_)
    refine lv_goto (tgt := 15) hx hb dX7_translate_131 (by decide) ?_
    exact k15 v2_127 (v3 + 1) firsts entries words itemCount fixedCount firstOpen V (lv_sub hl [2, 3, 1, 0] rfl) hw
  have B93 : ∀ (K15 : Int32 → Int32 → (Nat → Int32) → (Nat → Int32) → (Nat → Int64) → Int32 → Int32 → Int32 → Prop) (k15 : ∀ {H : Heap} {locs : List Loc} {ls : Array Slot} (v2 : Int32) (v3 : Int32) (firsts : Nat → Int32) (entries : Nat → Int32) (words : Nat → Int64) (itemCount : Int32) (fixedCount : Int32) (firstOpen : Int32), VW g A s.heap H locs (gX7 g a_this a_this_strokes a_this_firsts a_this_entries a_this_words strokes firsts entries words strokeCount itemCount fixedCount firstOpen window ++ (gX1 g a_p1 a_p1_outlines a_p1_words p1_outlines p1_words p1_size)) → lv_has ls 5 [(0, .ref a_this), (1, .ref a_p1), (2, .int v2), (3, .int v3)] → K15 v2 v3 firsts entries words itemCount fixedCount firstOpen → W p l e (kR 3 76 0 0) s m ([.ref a_this, .ref a_p1] : List Value).toArray below meth c H locs 0 0 Q (F0 m 15 ls [])), ∀ {H : Heap} {locs : List Loc} {ls : Array Slot} (v2 : Int32) (v3 : Int32) (v4 : Int32) (s1 : Int32) (s2 : Int64) (firsts : Nat → Int32) (entries : Nat → Int32) (words : Nat → Int64) (itemCount : Int32) (fixedCount : Int32) (firstOpen : Int32) (V : VW g A s.heap H locs (gX7 g a_this a_this_strokes a_this_firsts a_this_entries a_this_words strokes firsts entries words strokeCount itemCount fixedCount firstOpen window ++ (gX1 g a_p1 a_p1_outlines a_p1_words p1_outlines p1_words p1_size))) (hl : lv_has ls 5 [(0, .ref a_this), (1, .ref a_p1), (2, .int v2), (3, .int v3), (4, .int v4)]) (hw : wX7_translate_93 strokes strokeCount window p1_outlines p1_words p1_size K15 P v2 v3 v4 s1 s2 firsts entries words itemCount fixedCount firstOpen), W p l e (kR 3 76 0 0) s m ([.ref a_this, .ref a_p1] : List Value).toArray below meth c H locs 0 0 Q (F0 m 93 ls [.long s2, .int s1, .ref a_this_words]) := by
    intro K15 k15 H locs ls v2 v3 v4 s1 s2 firsts entries words itemCount fixedCount firstOpen V hl hw
    refine kSv1 (rest := []) F hl V [4] [0, 1, 2, 3, 5, 6, 7] [0, 1, 2, 3, 7, 4, 5, 6] (fun words_93 => (gX7 g a_this a_this_strokes a_this_firsts a_this_entries a_this_words strokes firsts entries words_93 strokeCount itemCount fixedCount firstOpen window ++ (gX1 g a_p1 a_p1_outlines a_p1_words p1_outlines p1_words p1_size))) (kX6_put_ l g a_this_words 61 words s1 s2 _ hw) gX7_translate_X6_put_ rfl 3 rfl hdX6_put_ rfl rfl (fun _ => rfl) rfl rfl rfl (by decide) ⟨Nat.le_of_ble_eq_true rfl, Nat.le_of_ble_eq_true rfl⟩ ⟨Nat.le_of_ble_eq_true rfl, Nat.le_of_ble_eq_true rfl⟩ (Nat.le_of_ble_eq_true rfl) rfl dX7_translate_93 (fun words_93 H locs hw V => ?_)
    refine lv_aload_n hx hb dX7_translate_96 rfl (lv_at hl 0 rfl) ?_
    refine lv_dup hx hb dX7_translate_97 rfl ?_
    refine kget F V 4 5 0 rfl rfl iX7_translate_X7 fX7_translate_29 (by decide) rfl rfl dX7_translate_98 ?_
    refine lv_iconst (v := 1) hx hb dX7_translate_101 (by decide) ?_
    refine lv_iadd hx hb dX7_translate_102 ?_
    refine lv_topi (fun itemCount_103 eitemCount_103 => ?_)
    have hw := hw itemCount_103 eitemCount_103
    refine kput F V 4 5 0 tyX7_ok nmX7 rfl rfl iX7_translate_X7 fX7_translate_29 (by decide) rfl rfl rfl rfl (Nat.le_of_ble_eq_true rfl) dX7_translate_103 (fun H locs V => ?_)
    have V : VW g A s.heap H locs (gX7 g a_this a_this_strokes a_this_firsts a_this_entries a_this_words strokes firsts entries words_93 strokeCount itemCount_103 fixedCount firstOpen window ++ (gX1 g a_p1 a_p1_outlines a_p1_words p1_outlines p1_words p1_size)) := V
    refine lv_iload_n hx hb dX7_translate_106 rfl (lv_at hl 2 rfl) ?_
    refine lv_iload hx hb dX7_translate_107 (lv_at hl 4 rfl) ?_
    refine lv_iconst (v := (-1)) hx hb dX7_translate_109 (by decide) ?_
    refine lv_icmp_ne (tgt := 117) hx hb dX7_translate_110 (by decide) (fun c_110 => ?_) (fun c_110 => ?_)
    · have hw := hw.1 c_110
      refine lv_aload_n hx hb dX7_translate_117 rfl (lv_at hl 1 rfl) ?_
      refine lv_iload hx hb dX7_translate_118 (lv_at hl 4 rfl) ?_
      refine kVl0 (rest := [.int v2]) F hl V [5, 6, 7] [0, 1, 2, 3, 4] [0, 1, 2, 3, 4, 5, 6, 7] (gX7 g a_this a_this_strokes a_this_firsts a_this_entries a_this_words strokes firsts entries words_93 strokeCount itemCount_103 fixedCount firstOpen window ++ (gX1 g a_p1 a_p1_outlines a_p1_words p1_outlines p1_words p1_size)) a_p1 1 5 rfl rfl (kX1_outlineOf l g a_p1 a_p1_outlines a_p1_words p1_outlines p1_words p1_size v4 _ hw) gX7_translate_X1_outlineOf rfl 1 rfl hdX1_outlineOf rfl rfl (fun _ => rfl) rfl rfl rfl (by decide) ⟨Nat.le_of_ble_eq_true rfl, Nat.le_of_ble_eq_true rfl⟩ ⟨Nat.le_of_ble_eq_true rfl, Nat.le_of_ble_eq_true rfl⟩ (Nat.le_of_ble_eq_true rfl) rfl dX7_translate_120 (fun r_120 H locs hw V => ?_)
      refine kSi0n (rest := [.int v2]) F hl V (kX5_length l g r_120 _ hw) gX7_translate_X5_length rfl 1 rfl hdX5_length ⟨Nat.le_of_ble_eq_true rfl, Nat.le_of_ble_eq_true rfl⟩ ⟨Nat.le_of_ble_eq_true rfl, Nat.le_of_ble_eq_true rfl⟩ (Nat.le_of_ble_eq_true rfl) rfl dX7_translate_123 (fun r_123 H locs hw V => ?_)
      exact B126 K15 k15 v3 v2 r_123 firsts entries words_93 itemCount_103 fixedCount firstOpen V (lv_sub hl [0, 1, 3] rfl) hw
    · have hw := hw.2 c_110
      refine lv_iconst (v := 1) hx hb dX7_translate_113 (by decide) ?_
      refine lv_goto (tgt := 126) hx hb dX7_translate_114 (by decide) ?_
      exact B126 K15 k15 v3 v2 1 firsts entries words_93 itemCount_103 fixedCount firstOpen V (lv_sub hl [0, 1, 3] rfl) hw
  have B15 :  ∀ (n : Nat), ∀ {H : Heap} {locs : List Loc} {ls : Array Slot} (v2 : Int32) (v3 : Int32) (firsts : Nat → Int32) (entries : Nat → Int32) (words : Nat → Int64) (itemCount : Int32) (fixedCount : Int32) (firstOpen : Int32) (V : VW g A s.heap H locs (gX7 g a_this a_this_strokes a_this_firsts a_this_entries a_this_words strokes firsts entries words strokeCount itemCount fixedCount firstOpen window ++ (gX1 g a_p1 a_p1_outlines a_p1_words p1_outlines p1_words p1_size))) (hl : lv_has ls 5 [(0, .ref a_this), (1, .ref a_p1), (2, .int v2), (3, .int v3)]) (hw : wX7_translate_15 strokes strokeCount window p1_outlines p1_words p1_size P n v2 v3 firsts entries words itemCount fixedCount firstOpen), W p l e (kR 3 76 0 0) s m ([.ref a_this, .ref a_p1] : List Value).toArray below meth c H locs 0 0 Q (F0 m 15 ls []) := by
    intro n
    induction n with
    | zero => intro _ _ _ _ _ _ _ _ _ _ _ V hl hw; exact hw.elim
    | succ n ih =>
      intro H locs ls v2 v3 firsts entries words itemCount fixedCount firstOpen V hl hw
      refine lv_iload_n hx hb dX7_translate_15 rfl (lv_at hl 3 rfl) ?_
      refine lv_bipush (v := 61) hx hb dX7_translate_16 (by decide) ?_
      refine lv_icmp_ge (tgt := 134) hx hb dX7_translate_18 (by decide) (fun c_18 => ?_) (fun c_18 => ?_)
      · have hw := hw.1 c_18
        exact B134  firsts entries words itemCount fixedCount firstOpen V (lv_sub hl [0] rfl) hw
      · have hw := hw.2 c_18
        refine lv_iload_n hx hb dX7_translate_21 rfl (lv_at hl 2 rfl) ?_
        refine lv_aload_n hx hb dX7_translate_22 rfl (lv_at hl 0 rfl) ?_
        refine kget F V 4 4 0 rfl rfl iX7_translate_X7 fX7_translate_25 (by decide) rfl rfl dX7_translate_23 ?_
        refine lv_icmp_ge (tgt := 134) hx hb dX7_translate_26 (by decide) (fun c_26 => ?_) (fun c_26 => ?_)
        · have hw := hw.1 c_26
          exact B134  firsts entries words itemCount fixedCount firstOpen V (lv_sub hl [0] rfl) hw
        · have hw := hw.2 c_26
          refine lv_aload_n hx hb dX7_translate_29 rfl (lv_at hl 1 rfl) ?_
          refine lv_aload_n hx hb dX7_translate_30 rfl (lv_at hl 0 rfl) ?_
          refine kget F V 4 0 0 rfl rfl iX7_translate_X7 fX7_translate_11 (by decide) rfl rfl dX7_translate_31 ?_
          refine lv_iload_n hx hb dX7_translate_34 rfl (lv_at hl 2 rfl) ?_
          refine lv_aload_n hx hb dX7_translate_35 rfl (lv_at hl 0 rfl) ?_
          refine kget F V 4 4 0 rfl rfl iX7_translate_X7 fX7_translate_25 (by decide) rfl rfl dX7_translate_36 ?_
          refine kVi0 (rest := []) F hl V [5, 6, 7, 1] [0, 2, 3, 4] [0, 7, 1, 2, 3, 4, 5, 6] (gX7 g a_this a_this_strokes a_this_firsts a_this_entries a_this_words strokes firsts entries words strokeCount itemCount fixedCount firstOpen window ++ (gX1 g a_p1 a_p1_outlines a_p1_words p1_outlines p1_words p1_size)) a_p1 1 5 rfl rfl (kX1_longestAt l g a_p1 a_p1_outlines a_p1_words a_this_strokes 61 p1_outlines p1_words p1_size strokes v2 strokeCount _ hw) gX7_translate_X1_longestAt rfl 3 rfl hdX1_longestAt rfl rfl (fun _ => rfl) rfl rfl rfl (by decide) ⟨Nat.le_of_ble_eq_true rfl, Nat.le_of_ble_eq_true rfl⟩ ⟨Nat.le_of_ble_eq_true rfl, Nat.le_of_ble_eq_true rfl⟩ (Nat.le_of_ble_eq_true rfl) rfl dX7_translate_39 (fun r_39 H locs hw V => ?_)
          refine lv_istore (lv' := [(4, .int r_39), (0, .ref a_this), (1, .ref a_p1), (2, .int v2), (3, .int v3)]) hx hb dX7_translate_42 hl (by decide) rfl (fun ls hl => ?_)
          refine lv_aload_n hx hb dX7_translate_44 rfl (lv_at hl 1 rfl) ?_
          refine kget F V 4 1 0 rfl rfl iX7_translate_X7 fX7_translate_15 (by decide) rfl rfl dX7_translate_45 ?_
          refine lv_aload_n hx hb dX7_translate_48 rfl (lv_at hl 1 rfl) ?_
          refine kget F V 4 5 0 rfl rfl iX7_translate_X7 fX7_translate_29 (by decide) rfl rfl dX7_translate_49 ?_
          refine lv_iload_n hx hb dX7_translate_52 rfl (lv_at hl 3 rfl) ?_
          refine kSv1 (rest := []) F hl V [2] [0, 1, 3, 4, 5, 6, 7] [0, 1, 7, 2, 3, 4, 5, 6] (fun firsts_53 => (gX7 g a_this a_this_strokes a_this_firsts a_this_entries a_this_words strokes firsts_53 entries words strokeCount itemCount fixedCount firstOpen window ++ (gX1 g a_p1 a_p1_outlines a_p1_words p1_outlines p1_words p1_size))) (kX6_put l g a_this_firsts 61 firsts itemCount v2 _ hw) gX7_translate_X6_put rfl 3 rfl hdX6_put rfl rfl (fun _ => rfl) rfl rfl rfl (by decide) ⟨Nat.le_of_ble_eq_true rfl, Nat.le_of_ble_eq_true rfl⟩ ⟨Nat.le_of_ble_eq_true rfl, Nat.le_of_ble_eq_true rfl⟩ (Nat.le_of_ble_eq_true rfl) rfl dX7_translate_53 (fun firsts_53 H locs hw V => ?_)
          refine lv_aload_n hx hb dX7_translate_56 rfl (lv_at hl 1 rfl) ?_
          refine kget F V 4 2 0 rfl rfl iX7_translate_X7 fX7_translate_18 (by decide) rfl rfl dX7_translate_57 ?_
          refine lv_aload_n hx hb dX7_translate_60 rfl (lv_at hl 1 rfl) ?_
          refine kget F V 4 5 0 rfl rfl iX7_translate_X7 fX7_translate_29 (by decide) rfl rfl dX7_translate_61 ?_
          refine lv_iload hx hb dX7_translate_64 (lv_at hl 0 rfl) ?_
          refine kSv1 (rest := []) F hl V [3] [0, 1, 2, 4, 5, 6, 7] [0, 1, 2, 7, 3, 4, 5, 6] (fun entries_66 => (gX7 g a_this a_this_strokes a_this_firsts a_this_entries a_this_words strokes firsts_53 entries_66 words strokeCount itemCount fixedCount firstOpen window ++ (gX1 g a_p1 a_p1_outlines a_p1_words p1_outlines p1_words p1_size))) (kX6_put l g a_this_entries 61 entries itemCount r_39 _ hw) gX7_translate_X6_put rfl 3 rfl hdX6_put rfl rfl (fun _ => rfl) rfl rfl rfl (by decide) ⟨Nat.le_of_ble_eq_true rfl, Nat.le_of_ble_eq_true rfl⟩ ⟨Nat.le_of_ble_eq_true rfl, Nat.le_of_ble_eq_true rfl⟩ (Nat.le_of_ble_eq_true rfl) rfl dX7_translate_66 (fun entries_66 H locs hw V => ?_)
          refine lv_aload_n hx hb dX7_translate_69 rfl (lv_at hl 1 rfl) ?_
          refine kget F V 4 3 0 rfl rfl iX7_translate_X7 fX7_translate_21 (by decide) rfl rfl dX7_translate_70 ?_
          refine lv_aload_n hx hb dX7_translate_73 rfl (lv_at hl 1 rfl) ?_
          refine kget F V 4 5 0 rfl rfl iX7_translate_X7 fX7_translate_29 (by decide) rfl rfl dX7_translate_74 ?_
          refine lv_iload hx hb dX7_translate_77 (lv_at hl 0 rfl) ?_
          refine lv_iconst (v := (-1)) hx hb dX7_translate_79 (by decide) ?_
          refine lv_icmp_ne (tgt := 87) hx hb dX7_translate_80 (by decide) (fun c_80 => ?_) (fun c_80 => ?_)
          · have hw := hw.1 c_80
            refine lv_aload_n hx hb dX7_translate_87 rfl (lv_at hl 2 rfl) ?_
            refine lv_iload hx hb dX7_translate_88 (lv_at hl 0 rfl) ?_
            refine kVl0 (rest := [.int itemCount, .ref a_this_words]) F hl V [5, 6, 7] [0, 1, 2, 3, 4] [0, 1, 2, 3, 4, 5, 6, 7] (gX7 g a_this a_this_strokes a_this_firsts a_this_entries a_this_words strokes firsts_53 entries_66 words strokeCount itemCount fixedCount firstOpen window ++ (gX1 g a_p1 a_p1_outlines a_p1_words p1_outlines p1_words p1_size)) a_p1 1 5 rfl rfl (kX1_wordOf l g a_p1 a_p1_outlines a_p1_words p1_outlines p1_words p1_size r_39 _ hw) gX7_translate_X1_wordOf rfl 1 rfl hdX1_wordOf rfl rfl (fun _ => rfl) rfl rfl rfl (by decide) ⟨Nat.le_of_ble_eq_true rfl, Nat.le_of_ble_eq_true rfl⟩ ⟨Nat.le_of_ble_eq_true rfl, Nat.le_of_ble_eq_true rfl⟩ (Nat.le_of_ble_eq_true rfl) rfl dX7_translate_90 (fun r_90 H locs hw V => ?_)
            exact B93 (wX7_translate_15 strokes strokeCount window p1_outlines p1_words p1_size P n) ih v2 v3 r_39 itemCount r_90 firsts_53 entries_66 words itemCount fixedCount firstOpen V (lv_sub hl [1, 2, 3, 4, 0] rfl) hw
          · have hw := hw.2 c_80
            refine lv_lconst (v := 0) hx hb dX7_translate_83 (by decide) ?_
            refine lv_goto (tgt := 93) hx hb dX7_translate_84 (by decide) ?_
            exact B93 (wX7_translate_15 strokes strokeCount window p1_outlines p1_words p1_size P n) ih v2 v3 r_39 itemCount 0 firsts_53 entries_66 words itemCount fixedCount firstOpen V (lv_sub hl [1, 2, 3, 4, 0] rfl) hw
  refine lv_aload_n hx hb dX7_translate_0 rfl (lv_at hl 0 rfl) ?_
  refine lv_aload_n hx hb dX7_translate_1 rfl (lv_at hl 0 rfl) ?_
  refine kget F V 4 6 0 rfl rfl iX7_translate_X7 fX7_translate_32 (by decide) rfl rfl dX7_translate_2 ?_
  refine kput F V 4 5 0 tyX7_ok nmX7 rfl rfl iX7_translate_X7 fX7_translate_29 (by decide) rfl rfl rfl rfl (Nat.le_of_ble_eq_true rfl) dX7_translate_5 (fun H locs V => ?_)
  have V : VW g A s.heap H locs (gX7 g a_this a_this_strokes a_this_firsts a_this_entries a_this_words strokes firsts entries words strokeCount fixedCount fixedCount firstOpen window ++ (gX1 g a_p1 a_p1_outlines a_p1_words p1_outlines p1_words p1_size)) := V
  refine lv_aload_n hx hb dX7_translate_8 rfl (lv_at hl 0 rfl) ?_
  refine kget F V 4 7 0 rfl rfl iX7_translate_X7 fX7_translate_35 (by decide) rfl rfl dX7_translate_9 ?_
  refine lv_istore_n (lv' := [(2, .int firstOpen), (0, .ref a_this), (1, .ref a_p1)]) hx hb dX7_translate_12 rfl hl (by decide) rfl (fun ls hl => ?_)
  refine lv_iconst (v := 0) hx hb dX7_translate_13 (by decide) ?_
  refine lv_istore_n (lv' := [(3, .int 0), (2, .int firstOpen), (0, .ref a_this), (1, .ref a_p1)]) hx hb dX7_translate_14 rfl hl (by decide) rfl (fun ls hl => ?_)
  obtain ⟨n_15, hw⟩ := hw
  exact B15  n_15 firstOpen 0 firsts entries words fixedCount fixedCount firstOpen V (lv_sub hl [2, 3, 1, 0] rfl) hw
theorem hdX7_openItems : yX7_openItems.cls = RX7 ∧ yX7_openItems.cls ≠ "java/lang/invoke/MethodHandle" ∧ yX7_openItems.cls ≠ "java/lang/invoke/VarHandle" ∧ (parseMethodDescriptor yX7_openItems.desc).map (fun d => d.parameters.length) = some 0 := by decide +kernel
theorem fX7_openItems_29 : Cond.fieldLink RX7 29 RX7 "itemCount" "I" ∈ wsX7_openItems := by decide +kernel
theorem iX7_openItems_X7 : ∀ w ∈ u_ws RX7 TX7 9, w ∈ wsX7_openItems := by decide +kernel
theorem fX7_openItems_32 : Cond.fieldLink RX7 32 RX7 "fixedCount" "I" ∈ wsX7_openItems := by decide +kernel
def wX7_openItems (itemCount : Int32) (fixedCount : Int32) (P : Int32 → Prop) : Prop := P (itemCount - fixedCount)
set_option maxHeartbeats 4000000 in
set_option maxRecDepth 100000 in
theorem kX7_openItems (l : Launch) (g : kT) (a_this a_this_strokes a_this_firsts a_this_entries a_this_words : Nat) (strokes : Nat → Int32) (firsts : Nat → Int32) (entries : Nat → Int32) (words : Nat → Int64) (strokeCount : Int32) (itemCount : Int32) (fixedCount : Int32) (firstOpen : Int32) (window : Int32) (P : Int32 → Prop) (hw : wX7_openItems itemCount fixedCount P) : Ki0 l g yX7_openItems wsX7_openItems 0 0 0 0 [.ref a_this] (gX7 g a_this a_this_strokes a_this_firsts a_this_entries a_this_words strokes firsts entries words strokeCount itemCount fixedCount firstOpen window) P (gX7 g a_this a_this_strokes a_this_firsts a_this_entries a_this_words strokes firsts entries words strokeCount itemCount fixedCount firstOpen window) := by
  refine Ki0.mk (cc := cX7_openItems) (nL := 1) (ty := .int) (by decide +kernel) rfl (Nat.le_of_ble_eq_true rfl) ?_
  intro p e s m below meth c A Q ls F hl V ret
  have hx := F.x
  have hb := F.b
  have hl : lv_has ls 1 [(0, .ref a_this)] := hl
  refine lv_aload_n hx hb dX7_openItems_0 rfl (lv_at hl 0 rfl) ?_
  refine kget F V 4 5 0 rfl rfl iX7_openItems_X7 fX7_openItems_29 (by decide) rfl rfl dX7_openItems_1 ?_
  refine lv_aload_n hx hb dX7_openItems_4 rfl (lv_at hl 0 rfl) ?_
  refine kget F V 4 6 0 rfl rfl iX7_openItems_X7 fX7_openItems_32 (by decide) rfl rfl dX7_openItems_5 ?_
  refine lv_isub hx hb dX7_openItems_8 ?_
  exact ret _ _ _ _ _ rfl dX7_openItems_9 V hw
theorem hdX7_openItemsOf : yX7_openItemsOf.cls = RX7 ∧ yX7_openItemsOf.cls ≠ "java/lang/invoke/MethodHandle" ∧ yX7_openItemsOf.cls ≠ "java/lang/invoke/VarHandle" ∧ (parseMethodDescriptor yX7_openItemsOf.desc).map (fun d => d.parameters.length) = some 1 := by decide +kernel
theorem fX7_openItemsOf_32 : Cond.fieldLink RX7 32 RX7 "fixedCount" "I" ∈ wsX7_openItemsOf := by decide +kernel
theorem iX7_openItemsOf_X7 : ∀ w ∈ u_ws RX7 TX7 9, w ∈ wsX7_openItemsOf := by decide +kernel
theorem fX7_openItemsOf_29 : Cond.fieldLink RX7 29 RX7 "itemCount" "I" ∈ wsX7_openItemsOf := by decide +kernel
theorem fX7_openItemsOf_18 : Cond.fieldLink RX7 18 RX7 "entries" "[I" ∈ wsX7_openItemsOf := by decide +kernel
def wX7_openItemsOf_30 (entries : Nat → Int32) (itemCount : Int32) (fixedCount : Int32) (p1 : Int32) (K7 : Int32 → Int32 → Prop) (P : Int32 → Prop) (v2 : Int32) (v3 : Int32) : Prop := K7 v2 (v3 + 1)
def wX7_openItemsOf_7 (entries : Nat → Int32) (itemCount : Int32) (fixedCount : Int32) (p1 : Int32) (P : Int32 → Prop) : Nat → Int32 → Int32 → Prop
  | 0, _, _ => False
  | n + 1, v2, v3 => (itemCount ≤ v3 → P v2) ∧ (¬ (itemCount ≤ v3) → wX6_at 61 entries v3 (fun r_20 => (¬ r_20 = p1 → wX7_openItemsOf_30 entries itemCount fixedCount p1 (wX7_openItemsOf_7 entries itemCount fixedCount p1 P n) P v2 v3) ∧ (r_20 = p1 → wX7_openItemsOf_30 entries itemCount fixedCount p1 (wX7_openItemsOf_7 entries itemCount fixedCount p1 P n) P (v2 + 1) v3)))
def wX7_openItemsOf (entries : Nat → Int32) (itemCount : Int32) (fixedCount : Int32) (p1 : Int32) (P : Int32 → Prop) : Prop := ∃ n_7, wX7_openItemsOf_7 entries itemCount fixedCount p1 P n_7 0 fixedCount
set_option maxHeartbeats 4000000 in
set_option maxRecDepth 100000 in
theorem kX7_openItemsOf (l : Launch) (g : kT) (a_this a_this_strokes a_this_firsts a_this_entries a_this_words : Nat) (strokes : Nat → Int32) (firsts : Nat → Int32) (entries : Nat → Int32) (words : Nat → Int64) (strokeCount : Int32) (itemCount : Int32) (fixedCount : Int32) (firstOpen : Int32) (window : Int32) (p1 : Int32) (P : Int32 → Prop) (hw : wX7_openItemsOf entries itemCount fixedCount p1 P) : Ki0 l g yX7_openItemsOf wsX7_openItemsOf 1 21 0 0 [.ref a_this, .int p1] (gX7 g a_this a_this_strokes a_this_firsts a_this_entries a_this_words strokes firsts entries words strokeCount itemCount fixedCount firstOpen window) P (gX7 g a_this a_this_strokes a_this_firsts a_this_entries a_this_words strokes firsts entries words strokeCount itemCount fixedCount firstOpen window) := by
  refine Ki0.mk (cc := cX7_openItemsOf) (nL := 4) (ty := .int) (by decide +kernel) rfl (Nat.le_of_ble_eq_true rfl) ?_
  intro p e s m below meth c A Q ls F hl V ret
  have hx := F.x
  have hb := F.b
  have hl : lv_has ls 4 [(0, .ref a_this), (1, .int p1)] := hl
  have B30 : ∀ (K7 : Int32 → Int32 → Prop) (k7 : ∀ {H : Heap} {locs : List Loc} {ls : Array Slot} (v2 : Int32) (v3 : Int32), VW g A s.heap H locs (gX7 g a_this a_this_strokes a_this_firsts a_this_entries a_this_words strokes firsts entries words strokeCount itemCount fixedCount firstOpen window) → lv_has ls 4 [(0, .ref a_this), (1, .int p1), (2, .int v2), (3, .int v3)] → K7 v2 v3 → W p l e (kR 1 21 0 0) s m ([.ref a_this, .int p1] : List Value).toArray below meth c H locs 0 0 Q (F0 m 7 ls [])), ∀ {H : Heap} {locs : List Loc} {ls : Array Slot} (v2 : Int32) (v3 : Int32) (V : VW g A s.heap H locs (gX7 g a_this a_this_strokes a_this_firsts a_this_entries a_this_words strokes firsts entries words strokeCount itemCount fixedCount firstOpen window)) (hl : lv_has ls 4 [(0, .ref a_this), (1, .int p1), (2, .int v2), (3, .int v3)]) (hw : wX7_openItemsOf_30 entries itemCount fixedCount p1 K7 P v2 v3), W p l e (kR 1 21 0 0) s m ([.ref a_this, .int p1] : List Value).toArray below meth c H locs 0 0 Q (F0 m 30 ls []) := by
    intro K7 k7 H locs ls v2 v3 V hl hw
    refine lv_iinc (v := v3 + 1) (lv' := [(3, .int (v3 + 1)), (0, .ref a_this), (1, .int p1), (2, .int v2)]) hx hb dX7_openItemsOf_30 hl (k := 3) rfl rfl (by decide) rfl (fun ls hl => ?_)
    refine lv_goto (tgt := 7) hx hb dX7_openItemsOf_33 (by decide) ?_
    exact k7 v2 (v3 + 1) V (lv_sub hl [1, 2, 3, 0] rfl) hw
  have B7 :  ∀ (n : Nat), ∀ {H : Heap} {locs : List Loc} {ls : Array Slot} (v2 : Int32) (v3 : Int32) (V : VW g A s.heap H locs (gX7 g a_this a_this_strokes a_this_firsts a_this_entries a_this_words strokes firsts entries words strokeCount itemCount fixedCount firstOpen window)) (hl : lv_has ls 4 [(0, .ref a_this), (1, .int p1), (2, .int v2), (3, .int v3)]) (hw : wX7_openItemsOf_7 entries itemCount fixedCount p1 P n v2 v3), W p l e (kR 1 21 0 0) s m ([.ref a_this, .int p1] : List Value).toArray below meth c H locs 0 0 Q (F0 m 7 ls []) := by
    intro n
    induction n with
    | zero => intro _ _ _ _ _ V hl hw; exact hw.elim
    | succ n ih =>
      intro H locs ls v2 v3 V hl hw
      refine lv_iload_n hx hb dX7_openItemsOf_7 rfl (lv_at hl 3 rfl) ?_
      refine lv_aload_n hx hb dX7_openItemsOf_8 rfl (lv_at hl 0 rfl) ?_
      refine kget F V 4 5 0 rfl rfl iX7_openItemsOf_X7 fX7_openItemsOf_29 (by decide) rfl rfl dX7_openItemsOf_9 ?_
      refine lv_icmp_ge (tgt := 36) hx hb dX7_openItemsOf_12 (by decide) (fun c_12 => ?_) (fun c_12 => ?_)
      · have hw := hw.1 c_12
        refine lv_iload_n hx hb dX7_openItemsOf_36 rfl (lv_at hl 2 rfl) ?_
        exact ret _ _ _ _ _ rfl dX7_openItemsOf_37 V hw
      · have hw := hw.2 c_12
        refine lv_aload_n hx hb dX7_openItemsOf_15 rfl (lv_at hl 0 rfl) ?_
        refine kget F V 4 2 0 rfl rfl iX7_openItemsOf_X7 fX7_openItemsOf_18 (by decide) rfl rfl dX7_openItemsOf_16 ?_
        refine lv_iload_n hx hb dX7_openItemsOf_19 rfl (lv_at hl 3 rfl) ?_
        refine kSi0 (rest := []) F hl V [3] [0, 1, 2, 4] [0, 1, 2, 4, 3] (gX7 g a_this a_this_strokes a_this_firsts a_this_entries a_this_words strokes firsts entries words strokeCount itemCount fixedCount firstOpen window) (kX6_at l g a_this_entries 61 entries v3 _ hw) gX7_openItemsOf_X6_at rfl 2 rfl hdX6_at rfl rfl (fun _ => rfl) rfl rfl rfl (by decide) ⟨Nat.le_of_ble_eq_true rfl, Nat.le_of_ble_eq_true rfl⟩ ⟨Nat.le_of_ble_eq_true rfl, Nat.le_of_ble_eq_true rfl⟩ (Nat.le_of_ble_eq_true rfl) rfl dX7_openItemsOf_20 (fun r_20 H locs hw V => ?_)
        refine lv_iload_n hx hb dX7_openItemsOf_23 rfl (lv_at hl 1 rfl) ?_
        refine lv_icmp_ne (tgt := 30) hx hb dX7_openItemsOf_24 (by decide) (fun c_24 => ?_) (fun c_24 => ?_)
        · have hw := hw.1 c_24
          exact B30 (wX7_openItemsOf_7 entries itemCount fixedCount p1 P n) ih v2 v3 V hl hw
        · have hw := hw.2 c_24
          refine lv_iinc (v := v2 + 1) (lv' := [(2, .int (v2 + 1)), (0, .ref a_this), (1, .int p1), (3, .int v3)]) hx hb dX7_openItemsOf_27 hl (k := 2) rfl rfl (by decide) rfl (fun ls hl => ?_)
          exact B30 (wX7_openItemsOf_7 entries itemCount fixedCount p1 P n) ih (v2 + 1) v3 V (lv_sub hl [1, 2, 0, 3] rfl) hw
  refine lv_iconst (v := 0) hx hb dX7_openItemsOf_0 (by decide) ?_
  refine lv_istore_n (lv' := [(2, .int 0), (0, .ref a_this), (1, .int p1)]) hx hb dX7_openItemsOf_1 rfl hl (by decide) rfl (fun ls hl => ?_)
  refine lv_aload_n hx hb dX7_openItemsOf_2 rfl (lv_at hl 1 rfl) ?_
  refine kget F V 4 6 0 rfl rfl iX7_openItemsOf_X7 fX7_openItemsOf_32 (by decide) rfl rfl dX7_openItemsOf_3 ?_
  refine lv_istore_n (lv' := [(3, .int fixedCount), (2, .int 0), (0, .ref a_this), (1, .int p1)]) hx hb dX7_openItemsOf_6 rfl hl (by decide) rfl (fun ls hl => ?_)
  obtain ⟨n_7, hw⟩ := hw
  exact B7  n_7 0 fixedCount V (lv_sub hl [2, 3, 1, 0] rfl) hw
theorem hdX7_strokesOf : yX7_strokesOf.cls = RX7 ∧ yX7_strokesOf.cls ≠ "java/lang/invoke/MethodHandle" ∧ yX7_strokesOf.cls ≠ "java/lang/invoke/VarHandle" ∧ (parseMethodDescriptor yX7_strokesOf.desc).map (fun d => d.parameters.length) = some 1 := by decide +kernel
def wX7_strokesOf (firsts : Nat → Int32) (strokeCount : Int32) (itemCount : Int32) (p1 : Int32) (P : Int32 → Prop) : Prop := wX7_firstOf firsts strokeCount itemCount (p1 + 1) (fun r_4 => wX7_firstOf firsts strokeCount itemCount p1 (fun r_9 => P (r_4 - r_9)))
set_option maxHeartbeats 4000000 in
set_option maxRecDepth 100000 in
theorem kX7_strokesOf (l : Launch) (g : kT) (a_this a_this_strokes a_this_firsts a_this_entries a_this_words : Nat) (strokes : Nat → Int32) (firsts : Nat → Int32) (entries : Nat → Int32) (words : Nat → Int64) (strokeCount : Int32) (itemCount : Int32) (fixedCount : Int32) (firstOpen : Int32) (window : Int32) (p1 : Int32) (P : Int32 → Prop) (hw : wX7_strokesOf firsts strokeCount itemCount p1 P) : Ki0 l g yX7_strokesOf wsX7_strokesOf 2 42 0 0 [.ref a_this, .int p1] (gX7 g a_this a_this_strokes a_this_firsts a_this_entries a_this_words strokes firsts entries words strokeCount itemCount fixedCount firstOpen window) P (gX7 g a_this a_this_strokes a_this_firsts a_this_entries a_this_words strokes firsts entries words strokeCount itemCount fixedCount firstOpen window) := by
  refine Ki0.mk (cc := cX7_strokesOf) (nL := 2) (ty := .int) (by decide +kernel) rfl (Nat.le_of_ble_eq_true rfl) ?_
  intro p e s m below meth c A Q ls F hl V ret
  have hx := F.x
  have hb := F.b
  have hl : lv_has ls 2 [(0, .ref a_this), (1, .int p1)] := hl
  refine lv_aload_n hx hb dX7_strokesOf_0 rfl (lv_at hl 0 rfl) ?_
  refine lv_iload_n hx hb dX7_strokesOf_1 rfl (lv_at hl 1 rfl) ?_
  refine lv_iconst (v := 1) hx hb dX7_strokesOf_2 (by decide) ?_
  refine lv_iadd hx hb dX7_strokesOf_3 ?_
  refine kVi0 (rest := []) F hl V [0, 1, 2, 3, 4] [] [0, 1, 2, 3, 4] (gX7 g a_this a_this_strokes a_this_firsts a_this_entries a_this_words strokes firsts entries words strokeCount itemCount fixedCount firstOpen window) a_this 4 0 rfl rfl (kX7_firstOf l g a_this a_this_strokes a_this_firsts a_this_entries a_this_words strokes firsts entries words strokeCount itemCount fixedCount firstOpen window (p1 + 1) _ hw) gX7_strokesOf_X7_firstOf rfl 1 rfl hdX7_firstOf rfl rfl (fun _ => rfl) rfl rfl rfl (by decide) ⟨Nat.le_of_ble_eq_true rfl, Nat.le_of_ble_eq_true rfl⟩ ⟨Nat.le_of_ble_eq_true rfl, Nat.le_of_ble_eq_true rfl⟩ (Nat.le_of_ble_eq_true rfl) rfl dX7_strokesOf_4 (fun r_4 H locs hw V => ?_)
  refine lv_aload_n hx hb dX7_strokesOf_7 rfl (lv_at hl 0 rfl) ?_
  refine lv_iload_n hx hb dX7_strokesOf_8 rfl (lv_at hl 1 rfl) ?_
  refine kVi0 (rest := [.int r_4]) F hl V [0, 1, 2, 3, 4] [] [0, 1, 2, 3, 4] (gX7 g a_this a_this_strokes a_this_firsts a_this_entries a_this_words strokes firsts entries words strokeCount itemCount fixedCount firstOpen window) a_this 4 0 rfl rfl (kX7_firstOf l g a_this a_this_strokes a_this_firsts a_this_entries a_this_words strokes firsts entries words strokeCount itemCount fixedCount firstOpen window p1 _ hw) gX7_strokesOf_X7_firstOf rfl 1 rfl hdX7_firstOf rfl rfl (fun _ => rfl) rfl rfl rfl (by decide) ⟨Nat.le_of_ble_eq_true rfl, Nat.le_of_ble_eq_true rfl⟩ ⟨Nat.le_of_ble_eq_true rfl, Nat.le_of_ble_eq_true rfl⟩ (Nat.le_of_ble_eq_true rfl) rfl dX7_strokesOf_9 (fun r_9 H locs hw V => ?_)
  refine lv_isub hx hb dX7_strokesOf_12 ?_
  exact ret _ _ _ _ _ rfl dX7_strokesOf_13 V hw
theorem hdX7_itemWith : yX7_itemWith.cls = RX7 ∧ yX7_itemWith.cls ≠ "java/lang/invoke/MethodHandle" ∧ yX7_itemWith.cls ≠ "java/lang/invoke/VarHandle" ∧ (parseMethodDescriptor yX7_itemWith.desc).map (fun d => d.parameters.length) = some 1 := by decide +kernel
theorem fX7_itemWith_29 : Cond.fieldLink RX7 29 RX7 "itemCount" "I" ∈ wsX7_itemWith := by decide +kernel
theorem iX7_itemWith_X7 : ∀ w ∈ u_ws RX7 TX7 9, w ∈ wsX7_itemWith := by decide +kernel
def wX7_itemWith_7 (firsts : Nat → Int32) (strokeCount : Int32) (itemCount : Int32) (p1 : Int32) (P : Int32 → Prop) : Nat → Int32 → Prop
  | 0, _ => False
  | n + 1, v2 => (v2 ≤ 0 → P 0) ∧ (¬ (v2 ≤ 0) → wX7_firstOf firsts strokeCount itemCount v2 (fun r_13 => (p1 < r_13 → (wX7_itemWith_7 firsts strokeCount itemCount p1 P n) (v2 + (-1))) ∧ (¬ (p1 < r_13) → P v2)))
def wX7_itemWith (firsts : Nat → Int32) (strokeCount : Int32) (itemCount : Int32) (p1 : Int32) (P : Int32 → Prop) : Prop := ∀ v2_6 : Int32, v2_6 = (itemCount - 1) → ∃ n_7, wX7_itemWith_7 firsts strokeCount itemCount p1 P n_7 v2_6
set_option maxHeartbeats 4000000 in
set_option maxRecDepth 100000 in
theorem kX7_itemWith (l : Launch) (g : kT) (a_this a_this_strokes a_this_firsts a_this_entries a_this_words : Nat) (strokes : Nat → Int32) (firsts : Nat → Int32) (entries : Nat → Int32) (words : Nat → Int64) (strokeCount : Int32) (itemCount : Int32) (fixedCount : Int32) (firstOpen : Int32) (window : Int32) (p1 : Int32) (P : Int32 → Prop) (hw : wX7_itemWith firsts strokeCount itemCount p1 P) : Ki0 l g yX7_itemWith wsX7_itemWith 2 42 0 0 [.ref a_this, .int p1] (gX7 g a_this a_this_strokes a_this_firsts a_this_entries a_this_words strokes firsts entries words strokeCount itemCount fixedCount firstOpen window) P (gX7 g a_this a_this_strokes a_this_firsts a_this_entries a_this_words strokes firsts entries words strokeCount itemCount fixedCount firstOpen window) := by
  refine Ki0.mk (cc := cX7_itemWith) (nL := 3) (ty := .int) (by decide +kernel) rfl (Nat.le_of_ble_eq_true rfl) ?_
  intro p e s m below meth c A Q ls F hl V ret
  have hx := F.x
  have hb := F.b
  have hl : lv_has ls 3 [(0, .ref a_this), (1, .int p1)] := hl
  have B7 :  ∀ (n : Nat), ∀ {H : Heap} {locs : List Loc} {ls : Array Slot} (v2 : Int32) (V : VW g A s.heap H locs (gX7 g a_this a_this_strokes a_this_firsts a_this_entries a_this_words strokes firsts entries words strokeCount itemCount fixedCount firstOpen window)) (hl : lv_has ls 3 [(0, .ref a_this), (1, .int p1), (2, .int v2)]) (hw : wX7_itemWith_7 firsts strokeCount itemCount p1 P n v2), W p l e (kR 2 42 0 0) s m ([.ref a_this, .int p1] : List Value).toArray below meth c H locs 0 0 Q (F0 m 7 ls []) := by
    intro n
    induction n with
    | zero => intro _ _ _ _ V hl hw; exact hw.elim
    | succ n ih =>
      intro H locs ls v2 V hl hw
      refine lv_iload_n hx hb dX7_itemWith_7 rfl (lv_at hl 2 rfl) ?_
      refine lv_if_le (tgt := 28) hx hb dX7_itemWith_8 (by decide) (fun c_8 => ?_) (fun c_8 => ?_)
      · have hw := hw.1 c_8
        refine lv_iconst (v := 0) hx hb dX7_itemWith_28 (by decide) ?_
        exact ret _ _ _ _ _ rfl dX7_itemWith_29 V hw
      · have hw := hw.2 c_8
        refine lv_aload_n hx hb dX7_itemWith_11 rfl (lv_at hl 0 rfl) ?_
        refine lv_iload_n hx hb dX7_itemWith_12 rfl (lv_at hl 2 rfl) ?_
        refine kVi0 (rest := []) F hl V [0, 1, 2, 3, 4] [] [0, 1, 2, 3, 4] (gX7 g a_this a_this_strokes a_this_firsts a_this_entries a_this_words strokes firsts entries words strokeCount itemCount fixedCount firstOpen window) a_this 4 0 rfl rfl (kX7_firstOf l g a_this a_this_strokes a_this_firsts a_this_entries a_this_words strokes firsts entries words strokeCount itemCount fixedCount firstOpen window v2 _ hw) gX7_itemWith_X7_firstOf rfl 1 rfl hdX7_firstOf rfl rfl (fun _ => rfl) rfl rfl rfl (by decide) ⟨Nat.le_of_ble_eq_true rfl, Nat.le_of_ble_eq_true rfl⟩ ⟨Nat.le_of_ble_eq_true rfl, Nat.le_of_ble_eq_true rfl⟩ (Nat.le_of_ble_eq_true rfl) rfl dX7_itemWith_13 (fun r_13 H locs hw V => ?_)
        refine lv_iload_n hx hb dX7_itemWith_16 rfl (lv_at hl 1 rfl) ?_
        refine lv_icmp_gt (tgt := 22) hx hb dX7_itemWith_17 (by decide) (fun c_17 => ?_) (fun c_17 => ?_)
        · have hw := hw.1 c_17
          refine lv_iinc (v := v2 + (-1)) (lv' := [(2, .int (v2 + (-1))), (0, .ref a_this), (1, .int p1)]) hx hb dX7_itemWith_22 hl (k := 2) rfl rfl (by decide) rfl (fun ls hl => ?_)
          refine lv_goto (tgt := 7) hx hb dX7_itemWith_25 (by decide) ?_
          exact ih (v2 + (-1)) V (lv_sub hl [1, 2, 0] rfl) hw
        · have hw := hw.2 c_17
          refine lv_iload_n hx hb dX7_itemWith_20 rfl (lv_at hl 2 rfl) ?_
          exact ret _ _ _ _ _ rfl dX7_itemWith_21 V hw
  refine lv_aload_n hx hb dX7_itemWith_0 rfl (lv_at hl 0 rfl) ?_
  refine kget F V 4 5 0 rfl rfl iX7_itemWith_X7 fX7_itemWith_29 (by decide) rfl rfl dX7_itemWith_1 ?_
  refine lv_iconst (v := 1) hx hb dX7_itemWith_4 (by decide) ?_
  refine lv_isub hx hb dX7_itemWith_5 ?_
  refine lv_topi (fun v2_6 ev2_6 => ?_)
  have hw := hw v2_6 ev2_6
  refine lv_istore_n (lv' := [(2, .int v2_6), (0, .ref a_this), (1, .int p1)]) hx hb dX7_itemWith_6 rfl hl (by decide) rfl (fun ls hl => ?_)
  obtain ⟨n_7, hw⟩ := hw
  exact B7  n_7 v2_6 V (lv_sub hl [1, 2, 0] rfl) hw
theorem hdX7_letterOf : yX7_letterOf.cls = RX7 ∧ yX7_letterOf.cls ≠ "java/lang/invoke/MethodHandle" ∧ yX7_letterOf.cls ≠ "java/lang/invoke/VarHandle" ∧ (parseMethodDescriptor yX7_letterOf.desc).map (fun d => d.parameters.length) = some 2 := by decide +kernel
theorem fX7_letterOf_21 : Cond.fieldLink RX7 21 RX7 "words" "[J" ∈ wsX7_letterOf := by decide +kernel
theorem iX7_letterOf_X7 : ∀ w ∈ u_ws RX7 TX7 9, w ∈ wsX7_letterOf := by decide +kernel
theorem fX7_letterOf_11 : Cond.fieldLink RX7 11 RX7 "strokes" "[I" ∈ wsX7_letterOf := by decide +kernel
def wX7_letterOf (strokes : Nat → Int32) (firsts : Nat → Int32) (words : Nat → Int64) (strokeCount : Int32) (itemCount : Int32) (p1 : Int32) (p2 : Int32) (P : Int32 → Prop) : Prop := wX6_at_ 61 words p1 (fun r_5 => (¬ (lg_cmp r_5 0) = 0 → wX9_letterOf r_5 p2 (fun r_36 => P r_36)) ∧ ((lg_cmp r_5 0) = 0 → wX7_firstOf firsts strokeCount itemCount p1 (fun r_21 => wX6_at 61 strokes r_21 (fun r_24 => wX3_codeAt r_24 p2 (fun r_28 => P r_28)))))
set_option maxHeartbeats 4000000 in
set_option maxRecDepth 100000 in
theorem kX7_letterOf (l : Launch) (g : kT) (a_this a_this_strokes a_this_firsts a_this_entries a_this_words : Nat) (strokes : Nat → Int32) (firsts : Nat → Int32) (entries : Nat → Int32) (words : Nat → Int64) (strokeCount : Int32) (itemCount : Int32) (fixedCount : Int32) (firstOpen : Int32) (window : Int32) (p1 : Int32) (p2 : Int32) (P : Int32 → Prop) (hw : wX7_letterOf strokes firsts words strokeCount itemCount p1 p2 P) : Ki0 l g yX7_letterOf wsX7_letterOf 2 43 0 0 [.ref a_this, .int p1, .int p2] (gX7 g a_this a_this_strokes a_this_firsts a_this_entries a_this_words strokes firsts entries words strokeCount itemCount fixedCount firstOpen window) P (gX7 g a_this a_this_strokes a_this_firsts a_this_entries a_this_words strokes firsts entries words strokeCount itemCount fixedCount firstOpen window) := by
  refine Ki0.mk (cc := cX7_letterOf) (nL := 5) (ty := .int) (by decide +kernel) rfl (Nat.le_of_ble_eq_true rfl) ?_
  intro p e s m below meth c A Q ls F hl V ret
  have hx := F.x
  have hb := F.b
  have hl : lv_has ls 5 [(0, .ref a_this), (1, .int p1), (2, .int p2)] := hl
  refine lv_aload_n hx hb dX7_letterOf_0 rfl (lv_at hl 0 rfl) ?_
  refine kget F V 4 3 0 rfl rfl iX7_letterOf_X7 fX7_letterOf_21 (by decide) rfl rfl dX7_letterOf_1 ?_
  refine lv_iload_n hx hb dX7_letterOf_4 rfl (lv_at hl 1 rfl) ?_
  refine kSl0 (rest := []) F hl V [4] [0, 1, 2, 3] [0, 1, 2, 3, 4] (gX7 g a_this a_this_strokes a_this_firsts a_this_entries a_this_words strokes firsts entries words strokeCount itemCount fixedCount firstOpen window) (kX6_at_ l g a_this_words 61 words p1 _ hw) gX7_letterOf_X6_at_ rfl 2 rfl hdX6_at_ rfl rfl (fun _ => rfl) rfl rfl rfl (by decide) ⟨Nat.le_of_ble_eq_true rfl, Nat.le_of_ble_eq_true rfl⟩ ⟨Nat.le_of_ble_eq_true rfl, Nat.le_of_ble_eq_true rfl⟩ (Nat.le_of_ble_eq_true rfl) rfl dX7_letterOf_5 (fun r_5 H locs hw V => ?_)
  refine lv_lstore_n (lv' := [(3, .long r_5), (0, .ref a_this), (1, .int p1), (2, .int p2)]) hx hb dX7_letterOf_8 rfl hl (by decide) rfl (fun ls hl => ?_)
  refine lv_lload_n hx hb dX7_letterOf_9 rfl (lv_at hl 0 rfl) ?_
  refine lv_lconst (v := 0) hx hb dX7_letterOf_10 (by decide) ?_
  refine W.lcmp hx hb dX7_letterOf_11 ?_
  refine lv_if_ne (tgt := 34) hx hb dX7_letterOf_12 (by decide) (fun c_12 => ?_) (fun c_12 => ?_)
  · have hw := hw.1 c_12
    refine lv_lload_n hx hb dX7_letterOf_34 rfl (lv_at hl 0 rfl) ?_
    refine lv_iload_n hx hb dX7_letterOf_35 rfl (lv_at hl 3 rfl) ?_
    refine kSi0n (rest := []) F hl V (kX9_letterOf l g r_5 p2 _ hw) gX7_letterOf_X9_letterOf rfl 2 rfl hdX9_letterOf ⟨Nat.le_of_ble_eq_true rfl, Nat.le_of_ble_eq_true rfl⟩ ⟨Nat.le_of_ble_eq_true rfl, Nat.le_of_ble_eq_true rfl⟩ (Nat.le_of_ble_eq_true rfl) rfl dX7_letterOf_36 (fun r_36 H locs hw V => ?_)
    exact ret _ _ _ _ _ rfl dX7_letterOf_39 V hw
  · have hw := hw.2 c_12
    refine lv_aload_n hx hb dX7_letterOf_15 rfl (lv_at hl 1 rfl) ?_
    refine kget F V 4 0 0 rfl rfl iX7_letterOf_X7 fX7_letterOf_11 (by decide) rfl rfl dX7_letterOf_16 ?_
    refine lv_aload_n hx hb dX7_letterOf_19 rfl (lv_at hl 1 rfl) ?_
    refine lv_iload_n hx hb dX7_letterOf_20 rfl (lv_at hl 2 rfl) ?_
    refine kVi0 (rest := [.ref a_this_strokes]) F hl V [0, 1, 2, 3, 4] [] [0, 1, 2, 3, 4] (gX7 g a_this a_this_strokes a_this_firsts a_this_entries a_this_words strokes firsts entries words strokeCount itemCount fixedCount firstOpen window) a_this 4 0 rfl rfl (kX7_firstOf l g a_this a_this_strokes a_this_firsts a_this_entries a_this_words strokes firsts entries words strokeCount itemCount fixedCount firstOpen window p1 _ hw) gX7_letterOf_X7_firstOf rfl 1 rfl hdX7_firstOf rfl rfl (fun _ => rfl) rfl rfl rfl (by decide) ⟨Nat.le_of_ble_eq_true rfl, Nat.le_of_ble_eq_true rfl⟩ ⟨Nat.le_of_ble_eq_true rfl, Nat.le_of_ble_eq_true rfl⟩ (Nat.le_of_ble_eq_true rfl) rfl dX7_letterOf_21 (fun r_21 H locs hw V => ?_)
    refine kSi0 (rest := []) F hl V [1] [0, 2, 3, 4] [0, 4, 1, 2, 3] (gX7 g a_this a_this_strokes a_this_firsts a_this_entries a_this_words strokes firsts entries words strokeCount itemCount fixedCount firstOpen window) (kX6_at l g a_this_strokes 61 strokes r_21 _ hw) gX7_letterOf_X6_at rfl 2 rfl hdX6_at rfl rfl (fun _ => rfl) rfl rfl rfl (by decide) ⟨Nat.le_of_ble_eq_true rfl, Nat.le_of_ble_eq_true rfl⟩ ⟨Nat.le_of_ble_eq_true rfl, Nat.le_of_ble_eq_true rfl⟩ (Nat.le_of_ble_eq_true rfl) rfl dX7_letterOf_24 (fun r_24 H locs hw V => ?_)
    refine lv_iload_n hx hb dX7_letterOf_27 rfl (lv_at hl 3 rfl) ?_
    refine kSi0n (rest := []) F hl V (kX3_codeAt l g r_24 p2 _ hw) gX7_letterOf_X3_codeAt rfl 2 rfl hdX3_codeAt ⟨Nat.le_of_ble_eq_true rfl, Nat.le_of_ble_eq_true rfl⟩ ⟨Nat.le_of_ble_eq_true rfl, Nat.le_of_ble_eq_true rfl⟩ (Nat.le_of_ble_eq_true rfl) rfl dX7_letterOf_28 (fun r_28 H locs hw V => ?_)
    refine lv_goto (tgt := 39) hx hb dX7_letterOf_31 (by decide) ?_
    exact ret _ _ _ _ _ rfl dX7_letterOf_39 V hw
theorem hdX7_small : yX7_small.cls ≠ "java/lang/invoke/MethodHandle" ∧ yX7_small.cls ≠ "java/lang/invoke/VarHandle" ∧ (parseMethodDescriptor yX7_small.desc).map (fun d => d.parameters.length) = some 1 := by decide +kernel
def wX7_small (p1 : Int32) (P : Int32 → Prop) : Prop := (p1 < 65 → P p1) ∧ (¬ (p1 < 65) → (90 < p1 → P p1) ∧ (¬ (90 < p1) → P (p1 + 32)))
set_option maxHeartbeats 4000000 in
set_option maxRecDepth 100000 in
theorem kX7_small (l : Launch) (g : kT) (p1 : Int32) (P : Int32 → Prop) (hw : wX7_small p1 P) : Ki0 l g yX7_small wsX7_small 0 0 0 0 [.int p1] [] P [] := by
  refine Ki0.mk (cc := cX7_small) (nL := 1) (ty := .int) (by decide +kernel) rfl (Nat.le_of_ble_eq_true rfl) ?_
  intro p e s m below meth c A Q ls F hl V ret
  have hx := F.x
  have hb := F.b
  have hl : lv_has ls 1 [(0, .int p1)] := hl
  refine lv_iload_n hx hb dX7_small_0 rfl (lv_at hl 0 rfl) ?_
  refine lv_bipush (v := 65) hx hb dX7_small_1 (by decide) ?_
  refine lv_icmp_lt (tgt := 19) hx hb dX7_small_3 (by decide) (fun c_3 => ?_) (fun c_3 => ?_)
  · have hw := hw.1 c_3
    refine lv_iload_n hx hb dX7_small_19 rfl (lv_at hl 0 rfl) ?_
    exact ret _ _ _ _ _ rfl dX7_small_20 V hw
  · have hw := hw.2 c_3
    refine lv_iload_n hx hb dX7_small_6 rfl (lv_at hl 0 rfl) ?_
    refine lv_bipush (v := 90) hx hb dX7_small_7 (by decide) ?_
    refine lv_icmp_gt (tgt := 19) hx hb dX7_small_9 (by decide) (fun c_9 => ?_) (fun c_9 => ?_)
    · have hw := hw.1 c_9
      refine lv_iload_n hx hb dX7_small_19 rfl (lv_at hl 0 rfl) ?_
      exact ret _ _ _ _ _ rfl dX7_small_20 V hw
    · have hw := hw.2 c_9
      refine lv_iload_n hx hb dX7_small_12 rfl (lv_at hl 0 rfl) ?_
      refine lv_bipush (v := 32) hx hb dX7_small_13 (by decide) ?_
      refine lv_iadd hx hb dX7_small_15 ?_
      refine lv_goto (tgt := 20) hx hb dX7_small_16 (by decide) ?_
      exact ret _ _ _ _ _ rfl dX7_small_20 V hw
theorem hdX7_wordOf : yX7_wordOf.cls = RX7 ∧ yX7_wordOf.cls ≠ "java/lang/invoke/MethodHandle" ∧ yX7_wordOf.cls ≠ "java/lang/invoke/VarHandle" ∧ (parseMethodDescriptor yX7_wordOf.desc).map (fun d => d.parameters.length) = some 2 := by decide +kernel
theorem fX7_wordOf_29 : Cond.fieldLink RX7 29 RX7 "itemCount" "I" ∈ wsX7_wordOf := by decide +kernel
theorem iX7_wordOf_X7 : ∀ w ∈ u_ws RX7 TX7 9, w ∈ wsX7_wordOf := by decide +kernel
def wX7_wordOf_75 (strokes : Nat → Int32) (firsts : Nat → Int32) (words : Nat → Int64) (strokeCount : Int32) (itemCount : Int32) (p1 : Int32) (p2 : Int32) (K8 : Int64 → Int32 → Int32 → Prop) (P : Int64 → Prop) (v3 : Int64) (v5 : Int32) (v6 : Int32) : Prop := K8 v3 v5 (v6 + 1)
def wX7_wordOf_34 (strokes : Nat → Int32) (firsts : Nat → Int32) (words : Nat → Int64) (strokeCount : Int32) (itemCount : Int32) (p1 : Int32) (p2 : Int32) (K8 : Int64 → Int32 → Int32 → Prop) (P : Int64 → Prop) : Nat → Int64 → Int32 → Int32 → Int32 → Int32 → Prop
  | 0, _, _, _, _, _ => False
  | n + 1, v3, v5, v6, v7, v8 => (v7 ≤ v8 → wX7_wordOf_75 strokes firsts words strokeCount itemCount p1 p2 K8 P v3 v5 v6) ∧ (¬ (v7 ≤ v8) → (8 ≤ v5 → wX7_wordOf_75 strokes firsts words strokeCount itemCount p1 p2 K8 P v3 v5 v6) ∧ (¬ (8 ≤ v5) → wX7_letterOf strokes firsts words strokeCount itemCount v6 v8 (fun r_56 => wX7_small r_56 (fun r_59 => wX9_with v3 v5 r_59 (fun r_62 => (wX7_wordOf_34 strokes firsts words strokeCount itemCount p1 p2 K8 P n) r_62 (v5 + 1) v6 v7 (v8 + 1))))))
def wX7_wordOf_8 (strokes : Nat → Int32) (firsts : Nat → Int32) (words : Nat → Int64) (strokeCount : Int32) (itemCount : Int32) (p1 : Int32) (p2 : Int32) (P : Int64 → Prop) : Nat → Int64 → Int32 → Int32 → Prop
  | 0, _, _, _ => False
  | n + 1, v3, v5, v6 => (p2 < v6 → P v3) ∧ (¬ (p2 < v6) → (itemCount ≤ v6 → P v3) ∧ (¬ (itemCount ≤ v6) → wX7_lettersOf strokes firsts words strokeCount itemCount v6 (fun r_26 => ∃ n_34, wX7_wordOf_34 strokes firsts words strokeCount itemCount p1 p2 (wX7_wordOf_8 strokes firsts words strokeCount itemCount p1 p2 P n) P n_34 v3 v5 v6 r_26 0)))
def wX7_wordOf (strokes : Nat → Int32) (firsts : Nat → Int32) (words : Nat → Int64) (strokeCount : Int32) (itemCount : Int32) (p1 : Int32) (p2 : Int32) (P : Int64 → Prop) : Prop := ∃ n_8, wX7_wordOf_8 strokes firsts words strokeCount itemCount p1 p2 P n_8 0 0 p1
set_option maxHeartbeats 4000000 in
set_option maxRecDepth 100000 in
theorem kX7_wordOf (l : Launch) (g : kT) (a_this a_this_strokes a_this_firsts a_this_entries a_this_words : Nat) (strokes : Nat → Int32) (firsts : Nat → Int32) (entries : Nat → Int32) (words : Nat → Int64) (strokeCount : Int32) (itemCount : Int32) (fixedCount : Int32) (firstOpen : Int32) (window : Int32) (p1 : Int32) (p2 : Int32) (P : Int64 → Prop) (hw : wX7_wordOf strokes firsts words strokeCount itemCount p1 p2 P) : Kl0 l g yX7_wordOf wsX7_wordOf 3 68 0 0 [.ref a_this, .int p1, .int p2] (gX7 g a_this a_this_strokes a_this_firsts a_this_entries a_this_words strokes firsts entries words strokeCount itemCount fixedCount firstOpen window) P (gX7 g a_this a_this_strokes a_this_firsts a_this_entries a_this_words strokes firsts entries words strokeCount itemCount fixedCount firstOpen window) := by
  refine Kl0.mk (cc := cX7_wordOf) (nL := 9) (by decide +kernel) rfl (Nat.le_of_ble_eq_true rfl) ?_
  intro p e s m below meth c A Q ls F hl V ret
  have hx := F.x
  have hb := F.b
  have hl : lv_has ls 9 [(0, .ref a_this), (1, .int p1), (2, .int p2)] := hl
  have B75 : ∀ (K8 : Int64 → Int32 → Int32 → Prop) (k8 : ∀ {H : Heap} {locs : List Loc} {ls : Array Slot} (v3 : Int64) (v5 : Int32) (v6 : Int32), VW g A s.heap H locs (gX7 g a_this a_this_strokes a_this_firsts a_this_entries a_this_words strokes firsts entries words strokeCount itemCount fixedCount firstOpen window) → lv_has ls 9 [(0, .ref a_this), (2, .int p2), (3, .long v3), (5, .int v5), (6, .int v6)] → K8 v3 v5 v6 → W p l e (kR 3 68 0 0) s m ([.ref a_this, .int p1, .int p2] : List Value).toArray below meth c H locs 0 0 Q (F0 m 8 ls [])), ∀ {H : Heap} {locs : List Loc} {ls : Array Slot} (v3 : Int64) (v5 : Int32) (v6 : Int32) (V : VW g A s.heap H locs (gX7 g a_this a_this_strokes a_this_firsts a_this_entries a_this_words strokes firsts entries words strokeCount itemCount fixedCount firstOpen window)) (hl : lv_has ls 9 [(0, .ref a_this), (2, .int p2), (3, .long v3), (5, .int v5), (6, .int v6)]) (hw : wX7_wordOf_75 strokes firsts words strokeCount itemCount p1 p2 K8 P v3 v5 v6), W p l e (kR 3 68 0 0) s m ([.ref a_this, .int p1, .int p2] : List Value).toArray below meth c H locs 0 0 Q (F0 m 75 ls []) := by
    intro K8 k8 H locs ls v3 v5 v6 V hl hw
    refine lv_iinc (v := v6 + 1) (lv' := [(6, .int (v6 + 1)), (0, .ref a_this), (2, .int p2), (3, .long v3), (5, .int v5)]) hx hb dX7_wordOf_75 hl (k := 4) rfl rfl (by decide) rfl (fun ls hl => ?_)
    refine lv_goto (tgt := 8) hx hb dX7_wordOf_78 (by decide) ?_
    exact k8 v3 v5 (v6 + 1) V (lv_sub hl [1, 2, 3, 4, 0] rfl) hw
  have B34 : ∀ (K8 : Int64 → Int32 → Int32 → Prop) (k8 : ∀ {H : Heap} {locs : List Loc} {ls : Array Slot} (v3 : Int64) (v5 : Int32) (v6 : Int32), VW g A s.heap H locs (gX7 g a_this a_this_strokes a_this_firsts a_this_entries a_this_words strokes firsts entries words strokeCount itemCount fixedCount firstOpen window) → lv_has ls 9 [(0, .ref a_this), (2, .int p2), (3, .long v3), (5, .int v5), (6, .int v6)] → K8 v3 v5 v6 → W p l e (kR 3 68 0 0) s m ([.ref a_this, .int p1, .int p2] : List Value).toArray below meth c H locs 0 0 Q (F0 m 8 ls [])), ∀ (n : Nat), ∀ {H : Heap} {locs : List Loc} {ls : Array Slot} (v3 : Int64) (v5 : Int32) (v6 : Int32) (v7 : Int32) (v8 : Int32) (V : VW g A s.heap H locs (gX7 g a_this a_this_strokes a_this_firsts a_this_entries a_this_words strokes firsts entries words strokeCount itemCount fixedCount firstOpen window)) (hl : lv_has ls 9 [(0, .ref a_this), (2, .int p2), (3, .long v3), (5, .int v5), (6, .int v6), (7, .int v7), (8, .int v8)]) (hw : wX7_wordOf_34 strokes firsts words strokeCount itemCount p1 p2 K8 P n v3 v5 v6 v7 v8), W p l e (kR 3 68 0 0) s m ([.ref a_this, .int p1, .int p2] : List Value).toArray below meth c H locs 0 0 Q (F0 m 34 ls []) := by
    intro K8 k8
    intro n
    induction n with
    | zero => intro _ _ _ _ _ _ _ _ V hl hw; exact hw.elim
    | succ n ih =>
      intro H locs ls v3 v5 v6 v7 v8 V hl hw
      refine lv_iload hx hb dX7_wordOf_34 (lv_at hl 6 rfl) ?_
      refine lv_iload hx hb dX7_wordOf_36 (lv_at hl 5 rfl) ?_
      refine lv_icmp_ge (tgt := 75) hx hb dX7_wordOf_38 (by decide) (fun c_38 => ?_) (fun c_38 => ?_)
      · have hw := hw.1 c_38
        exact B75 K8 k8 v3 v5 v6 V (lv_sub hl [0, 1, 2, 3, 4] rfl) hw
      · have hw := hw.2 c_38
        refine lv_iload hx hb dX7_wordOf_41 (lv_at hl 3 rfl) ?_
        refine lv_bipush (v := 8) hx hb dX7_wordOf_43 (by decide) ?_
        refine lv_icmp_ge (tgt := 75) hx hb dX7_wordOf_45 (by decide) (fun c_45 => ?_) (fun c_45 => ?_)
        · have hw := hw.1 c_45
          exact B75 K8 k8 v3 v5 v6 V (lv_sub hl [0, 1, 2, 3, 4] rfl) hw
        · have hw := hw.2 c_45
          refine lv_lload_n hx hb dX7_wordOf_48 rfl (lv_at hl 2 rfl) ?_
          refine lv_iload hx hb dX7_wordOf_49 (lv_at hl 3 rfl) ?_
          refine lv_aload_n hx hb dX7_wordOf_51 rfl (lv_at hl 0 rfl) ?_
          refine lv_iload hx hb dX7_wordOf_52 (lv_at hl 4 rfl) ?_
          refine lv_iload hx hb dX7_wordOf_54 (lv_at hl 6 rfl) ?_
          refine kVi0 (rest := [.int v5, .long v3]) F hl V [0, 1, 2, 3, 4] [] [0, 1, 2, 3, 4] (gX7 g a_this a_this_strokes a_this_firsts a_this_entries a_this_words strokes firsts entries words strokeCount itemCount fixedCount firstOpen window) a_this 4 0 rfl rfl (kX7_letterOf l g a_this a_this_strokes a_this_firsts a_this_entries a_this_words strokes firsts entries words strokeCount itemCount fixedCount firstOpen window v6 v8 _ hw) gX7_wordOf_X7_letterOf rfl 2 rfl hdX7_letterOf rfl rfl (fun _ => rfl) rfl rfl rfl (by decide) ⟨Nat.le_of_ble_eq_true rfl, Nat.le_of_ble_eq_true rfl⟩ ⟨Nat.le_of_ble_eq_true rfl, Nat.le_of_ble_eq_true rfl⟩ (Nat.le_of_ble_eq_true rfl) rfl dX7_wordOf_56 (fun r_56 H locs hw V => ?_)
          refine kSi0n (rest := [.int v5, .long v3]) F hl V (kX7_small l g r_56 _ hw) gX7_wordOf_X7_small rfl 1 rfl hdX7_small ⟨Nat.le_of_ble_eq_true rfl, Nat.le_of_ble_eq_true rfl⟩ ⟨Nat.le_of_ble_eq_true rfl, Nat.le_of_ble_eq_true rfl⟩ (Nat.le_of_ble_eq_true rfl) rfl dX7_wordOf_59 (fun r_59 H locs hw V => ?_)
          refine kSl0n (rest := []) F hl V (kX9_with l g v3 v5 r_59 _ hw) gX7_wordOf_X9_with rfl 3 rfl hdX9_with ⟨Nat.le_of_ble_eq_true rfl, Nat.le_of_ble_eq_true rfl⟩ ⟨Nat.le_of_ble_eq_true rfl, Nat.le_of_ble_eq_true rfl⟩ (Nat.le_of_ble_eq_true rfl) rfl dX7_wordOf_62 (fun r_62 H locs hw V => ?_)
          refine lv_lstore_n (lv' := [(3, .long r_62), (0, .ref a_this), (2, .int p2), (5, .int v5), (6, .int v6), (7, .int v7), (8, .int v8)]) hx hb dX7_wordOf_65 rfl hl (by decide) rfl (fun ls hl => ?_)
          refine lv_iinc (v := v5 + 1) (lv' := [(5, .int (v5 + 1)), (3, .long r_62), (0, .ref a_this), (2, .int p2), (6, .int v6), (7, .int v7), (8, .int v8)]) hx hb dX7_wordOf_66 hl (k := 3) rfl rfl (by decide) rfl (fun ls hl => ?_)
          refine lv_iinc (v := v8 + 1) (lv' := [(8, .int (v8 + 1)), (5, .int (v5 + 1)), (3, .long r_62), (0, .ref a_this), (2, .int p2), (6, .int v6), (7, .int v7)]) hx hb dX7_wordOf_69 hl (k := 6) rfl rfl (by decide) rfl (fun ls hl => ?_)
          refine lv_goto (tgt := 34) hx hb dX7_wordOf_72 (by decide) ?_
          exact ih r_62 (v5 + 1) v6 v7 (v8 + 1) V (lv_sub hl [3, 4, 2, 1, 5, 6, 0] rfl) hw
  have B8 :  ∀ (n : Nat), ∀ {H : Heap} {locs : List Loc} {ls : Array Slot} (v3 : Int64) (v5 : Int32) (v6 : Int32) (V : VW g A s.heap H locs (gX7 g a_this a_this_strokes a_this_firsts a_this_entries a_this_words strokes firsts entries words strokeCount itemCount fixedCount firstOpen window)) (hl : lv_has ls 9 [(0, .ref a_this), (2, .int p2), (3, .long v3), (5, .int v5), (6, .int v6)]) (hw : wX7_wordOf_8 strokes firsts words strokeCount itemCount p1 p2 P n v3 v5 v6), W p l e (kR 3 68 0 0) s m ([.ref a_this, .int p1, .int p2] : List Value).toArray below meth c H locs 0 0 Q (F0 m 8 ls []) := by
    intro n
    induction n with
    | zero => intro _ _ _ _ _ _ V hl hw; exact hw.elim
    | succ n ih =>
      intro H locs ls v3 v5 v6 V hl hw
      refine lv_iload hx hb dX7_wordOf_8 (lv_at hl 4 rfl) ?_
      refine lv_iload_n hx hb dX7_wordOf_10 rfl (lv_at hl 1 rfl) ?_
      refine lv_icmp_gt (tgt := 81) hx hb dX7_wordOf_11 (by decide) (fun c_11 => ?_) (fun c_11 => ?_)
      · have hw := hw.1 c_11
        refine lv_lload_n hx hb dX7_wordOf_81 rfl (lv_at hl 2 rfl) ?_
        exact ret _ _ _ _ _ dX7_wordOf_82 V hw
      · have hw := hw.2 c_11
        refine lv_iload hx hb dX7_wordOf_14 (lv_at hl 4 rfl) ?_
        refine lv_aload_n hx hb dX7_wordOf_16 rfl (lv_at hl 0 rfl) ?_
        refine kget F V 4 5 0 rfl rfl iX7_wordOf_X7 fX7_wordOf_29 (by decide) rfl rfl dX7_wordOf_17 ?_
        refine lv_icmp_ge (tgt := 81) hx hb dX7_wordOf_20 (by decide) (fun c_20 => ?_) (fun c_20 => ?_)
        · have hw := hw.1 c_20
          refine lv_lload_n hx hb dX7_wordOf_81 rfl (lv_at hl 2 rfl) ?_
          exact ret _ _ _ _ _ dX7_wordOf_82 V hw
        · have hw := hw.2 c_20
          refine lv_aload_n hx hb dX7_wordOf_23 rfl (lv_at hl 0 rfl) ?_
          refine lv_iload hx hb dX7_wordOf_24 (lv_at hl 4 rfl) ?_
          refine kVi0 (rest := []) F hl V [0, 1, 2, 3, 4] [] [0, 1, 2, 3, 4] (gX7 g a_this a_this_strokes a_this_firsts a_this_entries a_this_words strokes firsts entries words strokeCount itemCount fixedCount firstOpen window) a_this 4 0 rfl rfl (kX7_lettersOf l g a_this a_this_strokes a_this_firsts a_this_entries a_this_words strokes firsts entries words strokeCount itemCount fixedCount firstOpen window v6 _ hw) gX7_wordOf_X7_lettersOf rfl 1 rfl hdX7_lettersOf rfl rfl (fun _ => rfl) rfl rfl rfl (by decide) ⟨Nat.le_of_ble_eq_true rfl, Nat.le_of_ble_eq_true rfl⟩ ⟨Nat.le_of_ble_eq_true rfl, Nat.le_of_ble_eq_true rfl⟩ (Nat.le_of_ble_eq_true rfl) rfl dX7_wordOf_26 (fun r_26 H locs hw V => ?_)
          refine lv_istore (lv' := [(7, .int r_26), (0, .ref a_this), (2, .int p2), (3, .long v3), (5, .int v5), (6, .int v6)]) hx hb dX7_wordOf_29 hl (by decide) rfl (fun ls hl => ?_)
          refine lv_iconst (v := 0) hx hb dX7_wordOf_31 (by decide) ?_
          refine lv_istore (lv' := [(8, .int 0), (7, .int r_26), (0, .ref a_this), (2, .int p2), (3, .long v3), (5, .int v5), (6, .int v6)]) hx hb dX7_wordOf_32 hl (by decide) rfl (fun ls hl => ?_)
          obtain ⟨n_34, hw⟩ := hw
          exact B34 (wX7_wordOf_8 strokes firsts words strokeCount itemCount p1 p2 P n) ih n_34 v3 v5 v6 r_26 0 V (lv_sub hl [2, 3, 4, 5, 6, 1, 0] rfl) hw
  refine lv_lconst (v := 0) hx hb dX7_wordOf_0 (by decide) ?_
  refine lv_lstore_n (lv' := [(3, .long 0), (0, .ref a_this), (1, .int p1), (2, .int p2)]) hx hb dX7_wordOf_1 rfl hl (by decide) rfl (fun ls hl => ?_)
  refine lv_iconst (v := 0) hx hb dX7_wordOf_2 (by decide) ?_
  refine lv_istore (lv' := [(5, .int 0), (3, .long 0), (0, .ref a_this), (1, .int p1), (2, .int p2)]) hx hb dX7_wordOf_3 hl (by decide) rfl (fun ls hl => ?_)
  refine lv_iload_n hx hb dX7_wordOf_5 rfl (lv_at hl 3 rfl) ?_
  refine lv_istore (lv' := [(6, .int p1), (5, .int 0), (3, .long 0), (0, .ref a_this), (1, .int p1), (2, .int p2)]) hx hb dX7_wordOf_6 hl (by decide) rfl (fun ls hl => ?_)
  obtain ⟨n_8, hw⟩ := hw
  exact B8  n_8 0 0 p1 V (lv_sub hl [3, 5, 2, 1, 0] rfl) hw
theorem hdX8_copyFrom : yX8_copyFrom.cls = RX8 ∧ yX8_copyFrom.cls ≠ "java/lang/invoke/MethodHandle" ∧ yX8_copyFrom.cls ≠ "java/lang/invoke/VarHandle" ∧ (parseMethodDescriptor yX8_copyFrom.desc).map (fun d => d.parameters.length) = some 1 := by decide +kernel
theorem fX8_copyFrom_10 : Cond.fieldLink RX8 10 RX8 "dictionary" "LChordDesk$Dictionary;" ∈ wsX8_copyFrom := by decide +kernel
theorem iX8_copyFrom_X8 : ∀ w ∈ u_ws RX8 TX8 2, w ∈ wsX8_copyFrom := by decide +kernel
theorem fX8_copyFrom_19 : Cond.fieldLink RX8 19 RX8 "session" "LChordDesk$Session;" ∈ wsX8_copyFrom := by decide +kernel
def wX8_copyFrom (p1_dictionary_outlines : Nat → Int64) (p1_dictionary_words : Nat → Int64) (p1_dictionary_size : Int32) (p1_session_strokes : Nat → Int32) (p1_session_firsts : Nat → Int32) (p1_session_entries : Nat → Int32) (p1_session_words : Nat → Int64) (p1_session_strokeCount : Int32) (p1_session_itemCount : Int32) (p1_session_fixedCount : Int32) (p1_session_firstOpen : Int32) (p1_session_window : Int32) (P : (Nat → Int64) → (Nat → Int64) → Int32 → (Nat → Int32) → (Nat → Int32) → (Nat → Int32) → (Nat → Int64) → Int32 → Int32 → Int32 → Int32 → Int32 → Prop) (dictionary_outlines : Nat → Int64) (dictionary_words : Nat → Int64) (dictionary_size : Int32) (session_strokes : Nat → Int32) (session_firsts : Nat → Int32) (session_entries : Nat → Int32) (session_words : Nat → Int64) (session_strokeCount : Int32) (session_itemCount : Int32) (session_fixedCount : Int32) (session_firstOpen : Int32) (session_window : Int32) : Prop := wX1_copyFrom p1_dictionary_outlines p1_dictionary_words p1_dictionary_size (fun dictionary_outlines_8 dictionary_words_8 dictionary_size_8 => wX7_copyFrom p1_session_strokes p1_session_firsts p1_session_entries p1_session_words p1_session_strokeCount p1_session_itemCount p1_session_fixedCount p1_session_firstOpen p1_session_window (fun session_strokes_19 session_firsts_19 session_entries_19 session_words_19 session_strokeCount_19 session_itemCount_19 session_fixedCount_19 session_firstOpen_19 session_window_19 => P dictionary_outlines_8 dictionary_words_8 dictionary_size_8 session_strokes_19 session_firsts_19 session_entries_19 session_words_19 session_strokeCount_19 session_itemCount_19 session_fixedCount_19 session_firstOpen_19 session_window_19) session_strokes session_firsts session_entries session_words session_strokeCount session_itemCount session_fixedCount session_firstOpen session_window) dictionary_outlines dictionary_words dictionary_size
set_option maxHeartbeats 4000000 in
set_option maxRecDepth 100000 in
theorem kX8_copyFrom (l : Launch) (g : kT) (a_this a_this_dictionary a_this_session a_this_dictionary_outlines a_this_dictionary_words a_this_session_strokes a_this_session_firsts a_this_session_entries a_this_session_words a_p1 a_p1_dictionary a_p1_session a_p1_dictionary_outlines a_p1_dictionary_words a_p1_session_strokes a_p1_session_firsts a_p1_session_entries a_p1_session_words : Nat) (dictionary_outlines : Nat → Int64) (dictionary_words : Nat → Int64) (dictionary_size : Int32) (session_strokes : Nat → Int32) (session_firsts : Nat → Int32) (session_entries : Nat → Int32) (session_words : Nat → Int64) (session_strokeCount : Int32) (session_itemCount : Int32) (session_fixedCount : Int32) (session_firstOpen : Int32) (session_window : Int32) (p1_dictionary_outlines : Nat → Int64) (p1_dictionary_words : Nat → Int64) (p1_dictionary_size : Int32) (p1_session_strokes : Nat → Int32) (p1_session_firsts : Nat → Int32) (p1_session_entries : Nat → Int32) (p1_session_words : Nat → Int64) (p1_session_strokeCount : Int32) (p1_session_itemCount : Int32) (p1_session_fixedCount : Int32) (p1_session_firstOpen : Int32) (p1_session_window : Int32) (P : (Nat → Int64) → (Nat → Int64) → Int32 → (Nat → Int32) → (Nat → Int32) → (Nat → Int32) → (Nat → Int64) → Int32 → Int32 → Int32 → Int32 → Int32 → Prop) (hw : wX8_copyFrom p1_dictionary_outlines p1_dictionary_words p1_dictionary_size p1_session_strokes p1_session_firsts p1_session_entries p1_session_words p1_session_strokeCount p1_session_itemCount p1_session_fixedCount p1_session_firstOpen p1_session_window P dictionary_outlines dictionary_words dictionary_size session_strokes session_firsts session_entries session_words session_strokeCount session_itemCount session_fixedCount session_firstOpen session_window) : Kv12 l g yX8_copyFrom wsX8_copyFrom 3 82 0 0 [.ref a_this, .ref a_p1] (gX8 g a_this a_this_dictionary a_this_session ++ (gX1 g a_this_dictionary a_this_dictionary_outlines a_this_dictionary_words dictionary_outlines dictionary_words dictionary_size ++ (gX7 g a_this_session a_this_session_strokes a_this_session_firsts a_this_session_entries a_this_session_words session_strokes session_firsts session_entries session_words session_strokeCount session_itemCount session_fixedCount session_firstOpen session_window ++ (gX8 g a_p1 a_p1_dictionary a_p1_session ++ (gX1 g a_p1_dictionary a_p1_dictionary_outlines a_p1_dictionary_words p1_dictionary_outlines p1_dictionary_words p1_dictionary_size ++ (gX7 g a_p1_session a_p1_session_strokes a_p1_session_firsts a_p1_session_entries a_p1_session_words p1_session_strokes p1_session_firsts p1_session_entries p1_session_words p1_session_strokeCount p1_session_itemCount p1_session_fixedCount p1_session_firstOpen p1_session_window)))))) P (fun dictionary_outlines dictionary_words dictionary_size session_strokes session_firsts session_entries session_words session_strokeCount session_itemCount session_fixedCount session_firstOpen session_window => (gX8 g a_this a_this_dictionary a_this_session ++ (gX1 g a_this_dictionary a_this_dictionary_outlines a_this_dictionary_words dictionary_outlines dictionary_words dictionary_size ++ (gX7 g a_this_session a_this_session_strokes a_this_session_firsts a_this_session_entries a_this_session_words session_strokes session_firsts session_entries session_words session_strokeCount session_itemCount session_fixedCount session_firstOpen session_window ++ (gX8 g a_p1 a_p1_dictionary a_p1_session ++ (gX1 g a_p1_dictionary a_p1_dictionary_outlines a_p1_dictionary_words p1_dictionary_outlines p1_dictionary_words p1_dictionary_size ++ (gX7 g a_p1_session a_p1_session_strokes a_p1_session_firsts a_p1_session_entries a_p1_session_words p1_session_strokes p1_session_firsts p1_session_entries p1_session_words p1_session_strokeCount p1_session_itemCount p1_session_fixedCount p1_session_firstOpen p1_session_window))))))) := by
  refine Kv12.mk (cc := cX8_copyFrom) (nL := 2) (by decide +kernel) rfl (Nat.le_of_ble_eq_true rfl) ?_
  intro p e s m below meth c A Q ls F hl V ret _
  have hx := F.x
  have hb := F.b
  have hl : lv_has ls 2 [(0, .ref a_this), (1, .ref a_p1)] := hl
  refine lv_aload_n hx hb dX8_copyFrom_0 rfl (lv_at hl 0 rfl) ?_
  refine kget F V 5 0 0 rfl rfl iX8_copyFrom_X8 fX8_copyFrom_10 (by decide) rfl rfl dX8_copyFrom_1 ?_
  refine lv_aload_n hx hb dX8_copyFrom_4 rfl (lv_at hl 1 rfl) ?_
  refine kget F V 5 0 9 rfl rfl iX8_copyFrom_X8 fX8_copyFrom_10 (by decide) rfl rfl dX8_copyFrom_5 ?_
  refine kVv3 (rest := []) F hl V [1, 2, 3, 10, 11, 12] [0, 4, 5, 6, 7, 8, 9, 13, 14, 15, 16, 17] [0, 12, 13, 14, 1, 2, 3, 4, 5, 6, 15, 16, 17, 7, 8, 9, 10, 11] (fun dictionary_outlines_8 dictionary_words_8 dictionary_size_8 => (gX8 g a_this a_this_dictionary a_this_session ++ (gX1 g a_this_dictionary a_this_dictionary_outlines a_this_dictionary_words dictionary_outlines_8 dictionary_words_8 dictionary_size_8 ++ (gX7 g a_this_session a_this_session_strokes a_this_session_firsts a_this_session_entries a_this_session_words session_strokes session_firsts session_entries session_words session_strokeCount session_itemCount session_fixedCount session_firstOpen session_window ++ (gX8 g a_p1 a_p1_dictionary a_p1_session ++ (gX1 g a_p1_dictionary a_p1_dictionary_outlines a_p1_dictionary_words p1_dictionary_outlines p1_dictionary_words p1_dictionary_size ++ (gX7 g a_p1_session a_p1_session_strokes a_p1_session_firsts a_p1_session_entries a_p1_session_words p1_session_strokes p1_session_firsts p1_session_entries p1_session_words p1_session_strokeCount p1_session_itemCount p1_session_fixedCount p1_session_firstOpen p1_session_window))))))) a_this_dictionary 1 1 rfl rfl (kX1_copyFrom l g a_this_dictionary a_this_dictionary_outlines a_this_dictionary_words a_p1_dictionary a_p1_dictionary_outlines a_p1_dictionary_words dictionary_outlines dictionary_words dictionary_size p1_dictionary_outlines p1_dictionary_words p1_dictionary_size _ hw) gX8_copyFrom_X1_copyFrom rfl 1 rfl hdX1_copyFrom rfl rfl (fun _ _ _ => rfl) rfl rfl rfl (by decide) ⟨Nat.le_of_ble_eq_true rfl, Nat.le_of_ble_eq_true rfl⟩ ⟨Nat.le_of_ble_eq_true rfl, Nat.le_of_ble_eq_true rfl⟩ (Nat.le_of_ble_eq_true rfl) rfl dX8_copyFrom_8 (fun dictionary_outlines_8 dictionary_words_8 dictionary_size_8 H locs hw V => ?_)
  refine lv_aload_n hx hb dX8_copyFrom_11 rfl (lv_at hl 0 rfl) ?_
  refine kget F V 5 1 0 rfl rfl iX8_copyFrom_X8 fX8_copyFrom_19 (by decide) rfl rfl dX8_copyFrom_12 ?_
  refine lv_aload_n hx hb dX8_copyFrom_15 rfl (lv_at hl 1 rfl) ?_
  refine kget F V 5 1 9 rfl rfl iX8_copyFrom_X8 fX8_copyFrom_19 (by decide) rfl rfl dX8_copyFrom_16 ?_
  refine kVv9 (rest := []) F hl V [4, 5, 6, 7, 8, 13, 14, 15, 16, 17] [0, 1, 2, 3, 9, 10, 11, 12] [0, 1, 2, 3, 8, 9, 10, 11, 12, 4, 5, 6, 7, 13, 14, 15, 16, 17] (fun session_strokes_19 session_firsts_19 session_entries_19 session_words_19 session_strokeCount_19 session_itemCount_19 session_fixedCount_19 session_firstOpen_19 session_window_19 => (gX8 g a_this a_this_dictionary a_this_session ++ (gX1 g a_this_dictionary a_this_dictionary_outlines a_this_dictionary_words dictionary_outlines_8 dictionary_words_8 dictionary_size_8 ++ (gX7 g a_this_session a_this_session_strokes a_this_session_firsts a_this_session_entries a_this_session_words session_strokes_19 session_firsts_19 session_entries_19 session_words_19 session_strokeCount_19 session_itemCount_19 session_fixedCount_19 session_firstOpen_19 session_window_19 ++ (gX8 g a_p1 a_p1_dictionary a_p1_session ++ (gX1 g a_p1_dictionary a_p1_dictionary_outlines a_p1_dictionary_words p1_dictionary_outlines p1_dictionary_words p1_dictionary_size ++ (gX7 g a_p1_session a_p1_session_strokes a_p1_session_firsts a_p1_session_entries a_p1_session_words p1_session_strokes p1_session_firsts p1_session_entries p1_session_words p1_session_strokeCount p1_session_itemCount p1_session_fixedCount p1_session_firstOpen p1_session_window))))))) a_this_session 4 4 rfl rfl (kX7_copyFrom l g a_this_session a_this_session_strokes a_this_session_firsts a_this_session_entries a_this_session_words a_p1_session a_p1_session_strokes a_p1_session_firsts a_p1_session_entries a_p1_session_words session_strokes session_firsts session_entries session_words session_strokeCount session_itemCount session_fixedCount session_firstOpen session_window p1_session_strokes p1_session_firsts p1_session_entries p1_session_words p1_session_strokeCount p1_session_itemCount p1_session_fixedCount p1_session_firstOpen p1_session_window _ hw) gX8_copyFrom_X7_copyFrom rfl 1 rfl hdX7_copyFrom rfl rfl (fun _ _ _ _ _ _ _ _ _ => rfl) rfl rfl rfl (by decide) ⟨Nat.le_of_ble_eq_true rfl, Nat.le_of_ble_eq_true rfl⟩ ⟨Nat.le_of_ble_eq_true rfl, Nat.le_of_ble_eq_true rfl⟩ (Nat.le_of_ble_eq_true rfl) rfl dX8_copyFrom_19 (fun session_strokes_19 session_firsts_19 session_entries_19 session_words_19 session_strokeCount_19 session_itemCount_19 session_fixedCount_19 session_firstOpen_19 session_window_19 H locs hw V => ?_)
  exact ret _ _ _ _ _ _ _ _ _ _ _ _ _ _ _ _ dX8_copyFrom_22 V hw
theorem hdX8_translate : yX8_translate.cls = RX8 ∧ yX8_translate.cls ≠ "java/lang/invoke/MethodHandle" ∧ yX8_translate.cls ≠ "java/lang/invoke/VarHandle" ∧ (parseMethodDescriptor yX8_translate.desc).map (fun d => d.parameters.length) = some 0 := by decide +kernel
theorem fX8_translate_19 : Cond.fieldLink RX8 19 RX8 "session" "LChordDesk$Session;" ∈ wsX8_translate := by decide +kernel
theorem iX8_translate_X8 : ∀ w ∈ u_ws RX8 TX8 2, w ∈ wsX8_translate := by decide +kernel
theorem fX8_translate_10 : Cond.fieldLink RX8 10 RX8 "dictionary" "LChordDesk$Dictionary;" ∈ wsX8_translate := by decide +kernel
def wX8_translate (session_strokes : Nat → Int32) (session_strokeCount : Int32) (session_window : Int32) (dictionary_outlines : Nat → Int64) (dictionary_words : Nat → Int64) (dictionary_size : Int32) (P : (Nat → Int32) → (Nat → Int32) → (Nat → Int64) → Int32 → Int32 → Int32 → Prop) (session_firsts : Nat → Int32) (session_entries : Nat → Int32) (session_words : Nat → Int64) (session_itemCount : Int32) (session_fixedCount : Int32) (session_firstOpen : Int32) : Prop := wX7_translate session_strokes session_strokeCount session_window dictionary_outlines dictionary_words dictionary_size (fun session_firsts_8 session_entries_8 session_words_8 session_itemCount_8 session_fixedCount_8 session_firstOpen_8 => P session_firsts_8 session_entries_8 session_words_8 session_itemCount_8 session_fixedCount_8 session_firstOpen_8) session_firsts session_entries session_words session_itemCount session_fixedCount session_firstOpen
set_option maxHeartbeats 4000000 in
set_option maxRecDepth 100000 in
theorem kX8_translate (l : Launch) (g : kT) (a_this a_this_dictionary a_this_session a_this_session_strokes a_this_session_firsts a_this_session_entries a_this_session_words a_this_dictionary_outlines a_this_dictionary_words : Nat) (session_strokes : Nat → Int32) (session_firsts : Nat → Int32) (session_entries : Nat → Int32) (session_words : Nat → Int64) (session_strokeCount : Int32) (session_itemCount : Int32) (session_fixedCount : Int32) (session_firstOpen : Int32) (session_window : Int32) (dictionary_outlines : Nat → Int64) (dictionary_words : Nat → Int64) (dictionary_size : Int32) (P : (Nat → Int32) → (Nat → Int32) → (Nat → Int64) → Int32 → Int32 → Int32 → Prop) (hw : wX8_translate session_strokes session_strokeCount session_window dictionary_outlines dictionary_words dictionary_size P session_firsts session_entries session_words session_itemCount session_fixedCount session_firstOpen) : Kv6 l g yX8_translate wsX8_translate 4 100 0 0 [.ref a_this] (gX8 g a_this a_this_dictionary a_this_session ++ (gX7 g a_this_session a_this_session_strokes a_this_session_firsts a_this_session_entries a_this_session_words session_strokes session_firsts session_entries session_words session_strokeCount session_itemCount session_fixedCount session_firstOpen session_window ++ (gX1 g a_this_dictionary a_this_dictionary_outlines a_this_dictionary_words dictionary_outlines dictionary_words dictionary_size))) P (fun session_firsts session_entries session_words session_itemCount session_fixedCount session_firstOpen => (gX8 g a_this a_this_dictionary a_this_session ++ (gX7 g a_this_session a_this_session_strokes a_this_session_firsts a_this_session_entries a_this_session_words session_strokes session_firsts session_entries session_words session_strokeCount session_itemCount session_fixedCount session_firstOpen session_window ++ (gX1 g a_this_dictionary a_this_dictionary_outlines a_this_dictionary_words dictionary_outlines dictionary_words dictionary_size)))) := by
  refine Kv6.mk (cc := cX8_translate) (nL := 1) (by decide +kernel) rfl (Nat.le_of_ble_eq_true rfl) ?_
  intro p e s m below meth c A Q ls F hl V ret _
  have hx := F.x
  have hb := F.b
  have hl : lv_has ls 1 [(0, .ref a_this)] := hl
  refine lv_aload_n hx hb dX8_translate_0 rfl (lv_at hl 0 rfl) ?_
  refine kget F V 5 1 0 rfl rfl iX8_translate_X8 fX8_translate_19 (by decide) rfl rfl dX8_translate_1 ?_
  refine lv_aload_n hx hb dX8_translate_4 rfl (lv_at hl 0 rfl) ?_
  refine kget F V 5 0 0 rfl rfl iX8_translate_X8 fX8_translate_10 (by decide) rfl rfl dX8_translate_5 ?_
  refine kVv6 (rest := []) F hl V [1, 2, 3, 4, 5, 6, 7, 8] [0] [0, 1, 2, 3, 4, 5, 6, 7, 8] (fun session_firsts_8 session_entries_8 session_words_8 session_itemCount_8 session_fixedCount_8 session_firstOpen_8 => (gX8 g a_this a_this_dictionary a_this_session ++ (gX7 g a_this_session a_this_session_strokes a_this_session_firsts a_this_session_entries a_this_session_words session_strokes session_firsts_8 session_entries_8 session_words_8 session_strokeCount session_itemCount_8 session_fixedCount_8 session_firstOpen_8 session_window ++ (gX1 g a_this_dictionary a_this_dictionary_outlines a_this_dictionary_words dictionary_outlines dictionary_words dictionary_size)))) a_this_session 4 1 rfl rfl (kX7_translate l g a_this_session a_this_session_strokes a_this_session_firsts a_this_session_entries a_this_session_words a_this_dictionary a_this_dictionary_outlines a_this_dictionary_words session_strokes session_firsts session_entries session_words session_strokeCount session_itemCount session_fixedCount session_firstOpen session_window dictionary_outlines dictionary_words dictionary_size _ hw) gX8_translate_X7_translate rfl 1 rfl hdX7_translate rfl rfl (fun _ _ _ _ _ _ => rfl) rfl rfl rfl (by decide) ⟨Nat.le_of_ble_eq_true rfl, Nat.le_of_ble_eq_true rfl⟩ ⟨Nat.le_of_ble_eq_true rfl, Nat.le_of_ble_eq_true rfl⟩ (Nat.le_of_ble_eq_true rfl) rfl dX8_translate_8 (fun session_firsts_8 session_entries_8 session_words_8 session_itemCount_8 session_fixedCount_8 session_firstOpen_8 H locs hw V => ?_)
  exact ret _ _ _ _ _ _ _ _ _ _ dX8_translate_11 V hw
theorem hdX8_press : yX8_press.cls = RX8 ∧ yX8_press.cls ≠ "java/lang/invoke/MethodHandle" ∧ yX8_press.cls ≠ "java/lang/invoke/VarHandle" ∧ (parseMethodDescriptor yX8_press.desc).map (fun d => d.parameters.length) = some 1 := by decide +kernel
theorem fX8_press_19 : Cond.fieldLink RX8 19 RX8 "session" "LChordDesk$Session;" ∈ wsX8_press := by decide +kernel
theorem iX8_press_X8 : ∀ w ∈ u_ws RX8 TX8 2, w ∈ wsX8_press := by decide +kernel
def wX8_press (session_window : Int32) (dictionary_outlines : Nat → Int64) (dictionary_words : Nat → Int64) (dictionary_size : Int32) (p1 : Int32) (P : (Nat → Int32) → (Nat → Int32) → (Nat → Int32) → (Nat → Int64) → Int32 → Int32 → Int32 → Int32 → Prop) (session_strokes : Nat → Int32) (session_firsts : Nat → Int32) (session_entries : Nat → Int32) (session_words : Nat → Int64) (session_strokeCount : Int32) (session_itemCount : Int32) (session_fixedCount : Int32) (session_firstOpen : Int32) : Prop := wX7_add p1 (fun session_strokes_5 session_strokeCount_5 => wX8_translate session_strokes_5 session_strokeCount_5 session_window dictionary_outlines dictionary_words dictionary_size (fun session_firsts_9 session_entries_9 session_words_9 session_itemCount_9 session_fixedCount_9 session_firstOpen_9 => P session_strokes_5 session_firsts_9 session_entries_9 session_words_9 session_strokeCount_5 session_itemCount_9 session_fixedCount_9 session_firstOpen_9) session_firsts session_entries session_words session_itemCount session_fixedCount session_firstOpen) session_strokes session_strokeCount
set_option maxHeartbeats 4000000 in
set_option maxRecDepth 100000 in
theorem kX8_press (l : Launch) (g : kT) (a_this a_this_dictionary a_this_session a_this_session_strokes a_this_session_firsts a_this_session_entries a_this_session_words a_this_dictionary_outlines a_this_dictionary_words : Nat) (session_strokes : Nat → Int32) (session_firsts : Nat → Int32) (session_entries : Nat → Int32) (session_words : Nat → Int64) (session_strokeCount : Int32) (session_itemCount : Int32) (session_fixedCount : Int32) (session_firstOpen : Int32) (session_window : Int32) (dictionary_outlines : Nat → Int64) (dictionary_words : Nat → Int64) (dictionary_size : Int32) (p1 : Int32) (P : (Nat → Int32) → (Nat → Int32) → (Nat → Int32) → (Nat → Int64) → Int32 → Int32 → Int32 → Int32 → Prop) (hw : wX8_press session_window dictionary_outlines dictionary_words dictionary_size p1 P session_strokes session_firsts session_entries session_words session_strokeCount session_itemCount session_fixedCount session_firstOpen) : Kv8 l g yX8_press wsX8_press 5 120 0 0 [.ref a_this, .int p1] (gX8 g a_this a_this_dictionary a_this_session ++ (gX7 g a_this_session a_this_session_strokes a_this_session_firsts a_this_session_entries a_this_session_words session_strokes session_firsts session_entries session_words session_strokeCount session_itemCount session_fixedCount session_firstOpen session_window ++ (gX1 g a_this_dictionary a_this_dictionary_outlines a_this_dictionary_words dictionary_outlines dictionary_words dictionary_size))) P (fun session_strokes session_firsts session_entries session_words session_strokeCount session_itemCount session_fixedCount session_firstOpen => (gX8 g a_this a_this_dictionary a_this_session ++ (gX7 g a_this_session a_this_session_strokes a_this_session_firsts a_this_session_entries a_this_session_words session_strokes session_firsts session_entries session_words session_strokeCount session_itemCount session_fixedCount session_firstOpen session_window ++ (gX1 g a_this_dictionary a_this_dictionary_outlines a_this_dictionary_words dictionary_outlines dictionary_words dictionary_size)))) := by
  refine Kv8.mk (cc := cX8_press) (nL := 2) (by decide +kernel) rfl (Nat.le_of_ble_eq_true rfl) ?_
  intro p e s m below meth c A Q ls F hl V ret _
  have hx := F.x
  have hb := F.b
  have hl : lv_has ls 2 [(0, .ref a_this), (1, .int p1)] := hl
  refine lv_aload_n hx hb dX8_press_0 rfl (lv_at hl 0 rfl) ?_
  refine kget F V 5 1 0 rfl rfl iX8_press_X8 fX8_press_19 (by decide) rfl rfl dX8_press_1 ?_
  refine lv_iload_n hx hb dX8_press_4 rfl (lv_at hl 1 rfl) ?_
  refine kVv2 (rest := []) F hl V [1, 2, 3, 4, 5] [0, 6, 7, 8] [0, 4, 5, 6, 7, 8, 1, 2, 3] (fun session_strokes_5 session_strokeCount_5 => (gX8 g a_this a_this_dictionary a_this_session ++ (gX7 g a_this_session a_this_session_strokes a_this_session_firsts a_this_session_entries a_this_session_words session_strokes_5 session_firsts session_entries session_words session_strokeCount_5 session_itemCount session_fixedCount session_firstOpen session_window ++ (gX1 g a_this_dictionary a_this_dictionary_outlines a_this_dictionary_words dictionary_outlines dictionary_words dictionary_size)))) a_this_session 4 1 rfl rfl (kX7_add l g a_this_session a_this_session_strokes a_this_session_firsts a_this_session_entries a_this_session_words session_strokes session_firsts session_entries session_words session_strokeCount session_itemCount session_fixedCount session_firstOpen session_window p1 _ hw) gX8_press_X7_add rfl 1 rfl hdX7_add rfl rfl (fun _ _ => rfl) rfl rfl rfl (by decide) ⟨Nat.le_of_ble_eq_true rfl, Nat.le_of_ble_eq_true rfl⟩ ⟨Nat.le_of_ble_eq_true rfl, Nat.le_of_ble_eq_true rfl⟩ (Nat.le_of_ble_eq_true rfl) rfl dX8_press_5 (fun session_strokes_5 session_strokeCount_5 H locs hw V => ?_)
  refine lv_aload_n hx hb dX8_press_8 rfl (lv_at hl 0 rfl) ?_
  refine kVv6 (rest := []) F hl V [0, 1, 2, 3, 4, 5, 6, 7, 8] [] [0, 1, 2, 3, 4, 5, 6, 7, 8] (fun session_firsts_9 session_entries_9 session_words_9 session_itemCount_9 session_fixedCount_9 session_firstOpen_9 => (gX8 g a_this a_this_dictionary a_this_session ++ (gX7 g a_this_session a_this_session_strokes a_this_session_firsts a_this_session_entries a_this_session_words session_strokes_5 session_firsts_9 session_entries_9 session_words_9 session_strokeCount_5 session_itemCount_9 session_fixedCount_9 session_firstOpen_9 session_window ++ (gX1 g a_this_dictionary a_this_dictionary_outlines a_this_dictionary_words dictionary_outlines dictionary_words dictionary_size)))) a_this 5 0 rfl rfl (kX8_translate l g a_this a_this_dictionary a_this_session a_this_session_strokes a_this_session_firsts a_this_session_entries a_this_session_words a_this_dictionary_outlines a_this_dictionary_words session_strokes_5 session_firsts session_entries session_words session_strokeCount_5 session_itemCount session_fixedCount session_firstOpen session_window dictionary_outlines dictionary_words dictionary_size _ hw) gX8_press_X8_translate rfl 0 rfl hdX8_translate rfl rfl (fun _ _ _ _ _ _ => rfl) rfl rfl rfl (by decide) ⟨Nat.le_of_ble_eq_true rfl, Nat.le_of_ble_eq_true rfl⟩ ⟨Nat.le_of_ble_eq_true rfl, Nat.le_of_ble_eq_true rfl⟩ (Nat.le_of_ble_eq_true rfl) rfl dX8_press_9 (fun session_firsts_9 session_entries_9 session_words_9 session_itemCount_9 session_fixedCount_9 session_firstOpen_9 H locs hw V => ?_)
  exact ret _ _ _ _ _ _ _ _ _ _ _ _ dX8_press_12 V hw
theorem hdJxe99ae_isNaN_b9ae7 : yJxe99ae_isNaN_b9ae7.cls ≠ "java/lang/invoke/MethodHandle" ∧ yJxe99ae_isNaN_b9ae7.cls ≠ "java/lang/invoke/VarHandle" ∧ (parseMethodDescriptor yJxe99ae_isNaN_b9ae7.desc).map (fun d => d.parameters.length) = some 1 := by decide +kernel
def wJxe99ae_isNaN_b9ae7 (p1 : UInt64) (P : Int32 → Prop) : Prop := ((Op.cmpValue (FP.dcmp p1 p1) .l) = 0 → P 0) ∧ (¬ ((Op.cmpValue (FP.dcmp p1 p1) .l) = 0) → P 1)
set_option maxHeartbeats 4000000 in
set_option maxRecDepth 100000 in
theorem kJxe99ae_isNaN_b9ae7 (l : Launch) (g : kT) (p1 : UInt64) (P : Int32 → Prop) (hw : wJxe99ae_isNaN_b9ae7 p1 P) : Ki0 l g yJxe99ae_isNaN_b9ae7 wsJxe99ae_isNaN_b9ae7 0 0 0 0 [.double p1] [] P [] := by
  refine Ki0.mk (cc := cJxe99ae_isNaN_b9ae7) (nL := 2) (ty := .boolean) (by decide +kernel) rfl (Nat.le_of_ble_eq_true rfl) ?_
  intro p e s m below meth c A Q ls F hl V ret
  have hx := F.x
  have hb := F.b
  have hl : lv_has ls 2 [(0, .double p1)] := hl
  refine lv_dload_n hx hb dJxe99ae_isNaN_b9ae7_0 rfl (lv_at hl 0 rfl) ?_
  refine lv_dload_n hx hb dJxe99ae_isNaN_b9ae7_1 rfl (lv_at hl 0 rfl) ?_
  refine lv_dcmp hx hb dJxe99ae_isNaN_b9ae7_2 ?_
  refine lv_if_eq (tgt := 10) hx hb dJxe99ae_isNaN_b9ae7_3 (by decide) (fun c_3 => ?_) (fun c_3 => ?_)
  · have hw := hw.1 c_3
    refine lv_iconst (v := 0) hx hb dJxe99ae_isNaN_b9ae7_10 (by decide) ?_
    exact ret _ _ _ _ _ rfl dJxe99ae_isNaN_b9ae7_11 V hw
  · have hw := hw.2 c_3
    refine lv_iconst (v := 1) hx hb dJxe99ae_isNaN_b9ae7_6 (by decide) ?_
    refine lv_goto (tgt := 11) hx hb dJxe99ae_isNaN_b9ae7_7 (by decide) ?_
    exact ret _ _ _ _ _ rfl dJxe99ae_isNaN_b9ae7_11 V hw
