theorem hdX12_takesWord : yX12_takesWord.cls = RX12 ∧ yX12_takesWord.cls ≠ "java/lang/invoke/MethodHandle" ∧ yX12_takesWord.cls ≠ "java/lang/invoke/VarHandle" ∧ (parseMethodDescriptor yX12_takesWord.desc).map (fun d => d.parameters.length) = some 1 := by decide +kernel
theorem fX12_takesWord_128 : Cond.fieldLink RX12 128 RX12 "entries" "I" ∈ wsX12_takesWord := by decide +kernel
theorem iX12_takesWord_X12 : ∀ w ∈ u_ws RX12 TX12 14, w ∈ wsX12_takesWord := by decide +kernel
theorem fX12_takesWord_25 : Cond.fieldLink RX12 25 RX12 "read" "[I" ∈ wsX12_takesWord := by decide +kernel
def wX12_takesWord_70 (p1 : Int32) (P : Int32 → Int32 → Int32 → (Nat → Int32) → Prop) (v2 : Int32) (s0 : Int32) (isWord : Int32) (entries : Int32) (rdA : Nat → Int32) : Prop := (s0 = 0 → (s0 = 0 ∨ s0 = 1) ∧ P s0 isWord entries rdA) ∧ (¬ (s0 = 0) → vp_in (v2 + 5) 308 ∧ vp_in ((v2 + 6) + (rdA (v2 + 5).toNatClampNeg)) 308 ∧ ∀ rdA_93 : Nat → Int32, rdA_93 = upd rdA ((v2 + 6) + (rdA (v2 + 5).toNatClampNeg)).toNatClampNeg p1 → vp_in (v2 + 5) 308 ∧ vp_in (v2 + 5) 308 ∧ ∀ rdA_105 : Nat → Int32, rdA_105 = upd rdA_93 (v2 + 5).toNatClampNeg ((rdA_93 (v2 + 5).toNatClampNeg) + 1) → (s0 = 0 ∨ s0 = 1) ∧ P s0 isWord entries rdA_105)
def wX12_takesWord_69 (p1 : Int32) (P : Int32 → Int32 → Int32 → (Nat → Int32) → Prop) (v2 : Int32) (isWord : Int32) (entries : Int32) (rdA : Nat → Int32) : Prop := wX12_takesWord_70 p1 P v2 0 isWord entries rdA
def wX12_takesWord_41 (p1 : Int32) (P : Int32 → Int32 → Int32 → (Nat → Int32) → Prop) (v2 : Int32) (isWord : Int32) (entries : Int32) (rdA : Nat → Int32) : Prop := wX12_within p1 97 122 (fun r_46 => (r_46 = 0 → wX12_takesWord_69 p1 P v2 isWord entries rdA) ∧ (¬ (r_46 = 0) → vp_in (v2 + 5) 308 ∧ (8 ≤ (rdA (v2 + 5).toNatClampNeg) → wX12_takesWord_69 p1 P v2 isWord entries rdA) ∧ (¬ (8 ≤ (rdA (v2 + 5).toNatClampNeg)) → wX12_takesWord_70 p1 P v2 1 isWord entries rdA)))
def wX12_takesWord (p1 : Int32) (P : Int32 → Int32 → Int32 → (Nat → Int32) → Prop) (isWord : Int32) (entries : Int32) (rdA : Nat → Int32) : Prop := ∀ v2_7 : Int32, v2_7 = (14 * entries) → (¬ p1 = 59 → wX12_takesWord_41 p1 P v2_7 isWord entries rdA) ∧ (p1 = 59 → vp_in (v2_7 + 5) 308 ∧ ((rdA (v2_7 + 5).toNatClampNeg) ≤ 0 → wX12_takesWord_41 p1 P v2_7 isWord entries rdA) ∧ (¬ ((rdA (v2_7 + 5).toNatClampNeg) ≤ 0) → ∀ entries_32 : Int32, entries_32 = (entries + 1) → wX12_beginEntry entries_32 (fun isWord_36 rdA_36 => P 1 isWord_36 entries_32 rdA_36) isWord rdA))
set_option maxHeartbeats 4000000 in
set_option maxRecDepth 100000 in
theorem kX12_takesWord (l : Launch) (g : kT) (a_this : Nat) (a_this_z : Nat) (a_this_saved : Nat) (a_this_text : Nat) (a_this_line : Nat) (a_this_aside : Nat) (a_this_read : Nat) (a_this_fewest : Nat) (thrown : Int32) (z : Nat → Int32) (saves : Int32) (saved : Nat → Int32) (length : Int32) (text : Nat → Int32) (many : Int32) (line : Nat → Int32) (aside : Nat → Int32) (isWord : Int32) (entries : Int32) (rdA : Nat → Int32) (fewest : Nat → Int32) (h : Int64) (p1 : Int32) (P : Int32 → Int32 → Int32 → (Nat → Int32) → Prop) (hw : wX12_takesWord p1 P isWord entries rdA) : Ki3 l g yX12_takesWord wsX12_takesWord 1 22 0 0 [.ref a_this, .int p1] (gX12 g a_this a_this_z a_this_saved a_this_text a_this_line a_this_aside a_this_read a_this_fewest thrown z saves saved length text many line aside isWord entries rdA fewest h) P (fun isWord entries rdA => (gX12 g a_this a_this_z a_this_saved a_this_text a_this_line a_this_aside a_this_read a_this_fewest thrown z saves saved length text many line aside isWord entries rdA fewest h)) := by
  refine Ki3.mk (cc := cX12_takesWord) (nL := 4) (ty := .boolean) (by decide +kernel) rfl (Nat.le_of_ble_eq_true rfl) ?_
  intro p e s m below meth c A Q ls F hl V ret
  have hx := F.x
  have hb := F.b
  have hl : lv_has ls 4 [(0, .ref a_this), (1, .int p1)] := hl
  have B70 :  ∀ {H : Heap} {locs : List Loc} {ls : Array Slot} (v2 : Int32) (s0 : Int32) (isWord : Int32) (entries : Int32) (rdA : Nat → Int32) (V : VW g A s.heap H locs (gX12 g a_this a_this_z a_this_saved a_this_text a_this_line a_this_aside a_this_read a_this_fewest thrown z saves saved length text many line aside isWord entries rdA fewest h)) (hl : lv_has ls 4 [(0, .ref a_this), (1, .int p1), (2, .int v2)]) (hw : wX12_takesWord_70 p1 P v2 s0 isWord entries rdA), W p l e (kR 1 22 0 0) s m ([.ref a_this, .int p1] : List Value).toArray below meth c H locs 0 0 Q (F0 m 70 ls [.int s0]) := by
    intro  H locs ls v2 s0 isWord entries rdA V hl hw
    refine lv_istore_n (lv' := [(3, .int s0), (0, .ref a_this), (1, .int p1), (2, .int v2)]) hx hb dX12_takesWord_70 rfl hl (by decide) rfl (fun ls hl => ?_)
    refine lv_iload_n hx hb dX12_takesWord_71 rfl (lv_at hl 0 rfl) ?_
    refine lv_if_eq (tgt := 106) hx hb dX12_takesWord_72 (by decide) (fun c_72 => ?_) (fun c_72 => ?_)
    · have hw := hw.1 c_72
      refine lv_iload_n hx hb dX12_takesWord_106 rfl (lv_at hl 0 rfl) ?_
      exact ret _ _ _ _ _ _ _ _ (k01n hw.1) dX12_takesWord_107 V hw.2
    · have hw := hw.2 c_72
      refine lv_aload_n hx hb dX12_takesWord_75 rfl (lv_at hl 1 rfl) ?_
      refine kget F V 8 11 0 rfl rfl iX12_takesWord_X12 fX12_takesWord_25 (by decide) rfl rfl dX12_takesWord_76 ?_
      refine lv_iload_n hx hb dX12_takesWord_79 rfl (lv_at hl 3 rfl) ?_
      refine lv_bipush (v := 6) hx hb dX12_takesWord_80 (by decide) ?_
      refine lv_iadd hx hb dX12_takesWord_82 ?_
      refine lv_aload_n hx hb dX12_takesWord_83 rfl (lv_at hl 1 rfl) ?_
      refine kget F V 8 11 0 rfl rfl iX12_takesWord_X12 fX12_takesWord_25 (by decide) rfl rfl dX12_takesWord_84 ?_
      refine lv_iload_n hx hb dX12_takesWord_87 rfl (lv_at hl 3 rfl) ?_
      refine lv_iconst (v := 5) hx hb dX12_takesWord_88 (by decide) ?_
      refine lv_iadd hx hb dX12_takesWord_89 ?_
      refine kiald F V 6 rfl hw.1 dX12_takesWord_90 ?_
      have hw := hw.2
      refine lv_iadd hx hb dX12_takesWord_91 ?_
      refine lv_iload_n hx hb dX12_takesWord_92 rfl (lv_at hl 2 rfl) ?_
      refine kiast F V 6 rfl hw.1 dX12_takesWord_93 (fun rdA_93 erdA_93 H locs V => ?_)
      have hw := hw.2 rdA_93 erdA_93
      have V : VW g A s.heap H locs (gX12 g a_this a_this_z a_this_saved a_this_text a_this_line a_this_aside a_this_read a_this_fewest thrown z saves saved length text many line aside isWord entries rdA_93 fewest h) := V
      refine lv_aload_n hx hb dX12_takesWord_94 rfl (lv_at hl 1 rfl) ?_
      refine kget F V 8 11 0 rfl rfl iX12_takesWord_X12 fX12_takesWord_25 (by decide) rfl rfl dX12_takesWord_95 ?_
      refine lv_iload_n hx hb dX12_takesWord_98 rfl (lv_at hl 3 rfl) ?_
      refine lv_iconst (v := 5) hx hb dX12_takesWord_99 (by decide) ?_
      refine lv_iadd hx hb dX12_takesWord_100 ?_
      refine lv_dup2_11 hx hb dX12_takesWord_101 rfl rfl ?_
      refine kiald F V 6 rfl hw.1 dX12_takesWord_102 ?_
      have hw := hw.2
      refine lv_iconst (v := 1) hx hb dX12_takesWord_103 (by decide) ?_
      refine lv_iadd hx hb dX12_takesWord_104 ?_
      refine kiast F V 6 rfl hw.1 dX12_takesWord_105 (fun rdA_105 erdA_105 H locs V => ?_)
      have hw := hw.2 rdA_105 erdA_105
      have V : VW g A s.heap H locs (gX12 g a_this a_this_z a_this_saved a_this_text a_this_line a_this_aside a_this_read a_this_fewest thrown z saves saved length text many line aside isWord entries rdA_105 fewest h) := V
      refine lv_iload_n hx hb dX12_takesWord_106 rfl (lv_at hl 0 rfl) ?_
      exact ret _ _ _ _ _ _ _ _ (k01n hw.1) dX12_takesWord_107 V hw.2
  have B69 :  ∀ {H : Heap} {locs : List Loc} {ls : Array Slot} (v2 : Int32) (isWord : Int32) (entries : Int32) (rdA : Nat → Int32) (V : VW g A s.heap H locs (gX12 g a_this a_this_z a_this_saved a_this_text a_this_line a_this_aside a_this_read a_this_fewest thrown z saves saved length text many line aside isWord entries rdA fewest h)) (hl : lv_has ls 4 [(0, .ref a_this), (1, .int p1), (2, .int v2)]) (hw : wX12_takesWord_69 p1 P v2 isWord entries rdA), W p l e (kR 1 22 0 0) s m ([.ref a_this, .int p1] : List Value).toArray below meth c H locs 0 0 Q (F0 m 69 ls []) := by
    intro  H locs ls v2 isWord entries rdA V hl hw
    refine lv_iconst (v := 0) hx hb dX12_takesWord_69 (by decide) ?_
    exact B70  v2 0 isWord entries rdA V hl hw
  have B41 :  ∀ {H : Heap} {locs : List Loc} {ls : Array Slot} (v2 : Int32) (isWord : Int32) (entries : Int32) (rdA : Nat → Int32) (V : VW g A s.heap H locs (gX12 g a_this a_this_z a_this_saved a_this_text a_this_line a_this_aside a_this_read a_this_fewest thrown z saves saved length text many line aside isWord entries rdA fewest h)) (hl : lv_has ls 4 [(0, .ref a_this), (1, .int p1), (2, .int v2)]) (hw : wX12_takesWord_41 p1 P v2 isWord entries rdA), W p l e (kR 1 22 0 0) s m ([.ref a_this, .int p1] : List Value).toArray below meth c H locs 0 0 Q (F0 m 41 ls []) := by
    intro  H locs ls v2 isWord entries rdA V hl hw
    refine lv_iload_n hx hb dX12_takesWord_41 rfl (lv_at hl 1 rfl) ?_
    refine lv_bipush (v := 97) hx hb dX12_takesWord_42 (by decide) ?_
    refine lv_bipush (v := 122) hx hb dX12_takesWord_44 (by decide) ?_
    refine kSi0n (rest := []) F hl V (kX12_within l g p1 97 122 _ hw) gX12_takesWord_X12_within rfl 3 rfl hdX12_within ⟨Nat.le_of_ble_eq_true rfl, Nat.le_of_ble_eq_true rfl⟩ ⟨Nat.le_of_ble_eq_true rfl, Nat.le_of_ble_eq_true rfl⟩ (Nat.le_of_ble_eq_true rfl) rfl dX12_takesWord_46 (fun r_46 H locs hw V => ?_)
    refine lv_if_eq (tgt := 69) hx hb dX12_takesWord_49 (by decide) (fun c_49 => ?_) (fun c_49 => ?_)
    · have hw := hw.1 c_49
      exact B69  v2 isWord entries rdA V hl hw
    · have hw := hw.2 c_49
      refine lv_aload_n hx hb dX12_takesWord_52 rfl (lv_at hl 0 rfl) ?_
      refine kget F V 8 11 0 rfl rfl iX12_takesWord_X12 fX12_takesWord_25 (by decide) rfl rfl dX12_takesWord_53 ?_
      refine lv_iload_n hx hb dX12_takesWord_56 rfl (lv_at hl 2 rfl) ?_
      refine lv_iconst (v := 5) hx hb dX12_takesWord_57 (by decide) ?_
      refine lv_iadd hx hb dX12_takesWord_58 ?_
      refine kiald F V 6 rfl hw.1 dX12_takesWord_59 ?_
      have hw := hw.2
      refine lv_bipush (v := 8) hx hb dX12_takesWord_60 (by decide) ?_
      refine lv_icmp_ge (tgt := 69) hx hb dX12_takesWord_62 (by decide) (fun c_62 => ?_) (fun c_62 => ?_)
      · have hw := hw.1 c_62
        exact B69  v2 isWord entries rdA V hl hw
      · have hw := hw.2 c_62
        refine lv_iconst (v := 1) hx hb dX12_takesWord_65 (by decide) ?_
        refine lv_goto (tgt := 70) hx hb dX12_takesWord_66 (by decide) ?_
        exact B70  v2 1 isWord entries rdA V hl hw
  refine lv_bipush (v := 14) hx hb dX12_takesWord_0 (by decide) ?_
  refine lv_aload_n hx hb dX12_takesWord_2 rfl (lv_at hl 0 rfl) ?_
  refine kget F V 8 10 0 rfl rfl iX12_takesWord_X12 fX12_takesWord_128 (by decide) rfl rfl dX12_takesWord_3 ?_
  refine lv_imul hx hb dX12_takesWord_6 ?_
  refine lv_topi (fun v2_7 ev2_7 => ?_)
  have hw := hw v2_7 ev2_7
  refine lv_istore_n (lv' := [(2, .int v2_7), (0, .ref a_this), (1, .int p1)]) hx hb dX12_takesWord_7 rfl hl (by decide) rfl (fun ls hl => ?_)
  refine lv_iload_n hx hb dX12_takesWord_8 rfl (lv_at hl 2 rfl) ?_
  refine lv_bipush (v := 59) hx hb dX12_takesWord_9 (by decide) ?_
  refine lv_icmp_ne (tgt := 41) hx hb dX12_takesWord_11 (by decide) (fun c_11 => ?_) (fun c_11 => ?_)
  · have hw := hw.1 c_11
    exact B41  v2_7 isWord entries rdA V (lv_sub hl [1, 2, 0] rfl) hw
  · have hw := hw.2 c_11
    refine lv_aload_n hx hb dX12_takesWord_14 rfl (lv_at hl 1 rfl) ?_
    refine kget F V 8 11 0 rfl rfl iX12_takesWord_X12 fX12_takesWord_25 (by decide) rfl rfl dX12_takesWord_15 ?_
    refine lv_iload_n hx hb dX12_takesWord_18 rfl (lv_at hl 0 rfl) ?_
    refine lv_iconst (v := 5) hx hb dX12_takesWord_19 (by decide) ?_
    refine lv_iadd hx hb dX12_takesWord_20 ?_
    refine kiald F V 6 rfl hw.1 dX12_takesWord_21 ?_
    have hw := hw.2
    refine lv_if_le (tgt := 41) hx hb dX12_takesWord_22 (by decide) (fun c_22 => ?_) (fun c_22 => ?_)
    · have hw := hw.1 c_22
      exact B41  v2_7 isWord entries rdA V (lv_sub hl [1, 2, 0] rfl) hw
    · have hw := hw.2 c_22
      refine lv_aload_n hx hb dX12_takesWord_25 rfl (lv_at hl 1 rfl) ?_
      refine lv_dup hx hb dX12_takesWord_26 rfl ?_
      refine kget F V 8 10 0 rfl rfl iX12_takesWord_X12 fX12_takesWord_128 (by decide) rfl rfl dX12_takesWord_27 ?_
      refine lv_iconst (v := 1) hx hb dX12_takesWord_30 (by decide) ?_
      refine lv_iadd hx hb dX12_takesWord_31 ?_
      refine lv_topi (fun entries_32 eentries_32 => ?_)
      have hw := hw entries_32 eentries_32
      refine kput F V 8 10 0 tyX12_ok nmX12 rfl rfl iX12_takesWord_X12 fX12_takesWord_128 (by decide) rfl rfl rfl rfl (Nat.le_of_ble_eq_true rfl) dX12_takesWord_32 (fun H locs V => ?_)
      have V : VW g A s.heap H locs (gX12 g a_this a_this_z a_this_saved a_this_text a_this_line a_this_aside a_this_read a_this_fewest thrown z saves saved length text many line aside isWord entries_32 rdA fewest h) := V
      refine lv_aload_n hx hb dX12_takesWord_35 rfl (lv_at hl 1 rfl) ?_
      refine kVv2 (rest := []) F hl V [0, 1, 2, 3, 4, 5, 6, 7] [] [0, 1, 2, 3, 4, 5, 6, 7] (fun isWord_36 rdA_36 => (gX12 g a_this a_this_z a_this_saved a_this_text a_this_line a_this_aside a_this_read a_this_fewest thrown z saves saved length text many line aside isWord_36 entries_32 rdA_36 fewest h)) a_this 8 0 rfl rfl (kX12_beginEntry l g a_this a_this_z a_this_saved a_this_text a_this_line a_this_aside a_this_read a_this_fewest thrown z saves saved length text many line aside isWord entries_32 rdA fewest h _ hw) gX12_takesWord_X12_beginEntry rfl 0 rfl hdX12_beginEntry rfl rfl (fun _ _ => rfl) rfl rfl rfl (by decide) ⟨Nat.le_of_ble_eq_true rfl, Nat.le_of_ble_eq_true rfl⟩ ⟨Nat.le_of_ble_eq_true rfl, Nat.le_of_ble_eq_true rfl⟩ (Nat.le_of_ble_eq_true rfl) rfl dX12_takesWord_36 (fun isWord_36 rdA_36 H locs hw V => ?_)
      refine lv_iconst (v := 1) hx hb dX12_takesWord_39 (by decide) ?_
      exact ret _ _ _ _ _ _ _ _ rfl dX12_takesWord_40 V hw
theorem hdX12_readText : yX12_readText.cls = RX12 ∧ yX12_readText.cls ≠ "java/lang/invoke/MethodHandle" ∧ yX12_readText.cls ≠ "java/lang/invoke/VarHandle" ∧ (parseMethodDescriptor yX12_readText.desc).map (fun d => d.parameters.length) = some 0 := by decide +kernel
theorem fX12_readText_128 : Cond.fieldLink RX12 128 RX12 "entries" "I" ∈ wsX12_readText := by decide +kernel
theorem iX12_readText_X12 : ∀ w ∈ u_ws RX12 TX12 14, w ∈ wsX12_readText := by decide +kernel
theorem fX12_readText_121 : Cond.fieldLink RX12 121 RX12 "length" "I" ∈ wsX12_readText := by decide +kernel
theorem fX12_readText_124 : Cond.fieldLink RX12 124 RX12 "isWord" "Z" ∈ wsX12_readText := by decide +kernel
theorem fX12_readText_16 : Cond.fieldLink RX12 16 RX12 "text" "[I" ∈ wsX12_readText := by decide +kernel
def wX12_readText_55 (length : Int32) (text : Nat → Int32) (K11 : Int32 → Int32 → Int32 → (Nat → Int32) → Prop) (P : Int32 → Int32 → Int32 → (Nat → Int32) → Prop) (v1 : Int32) (isWord : Int32) (entries : Int32) (rdA : Nat → Int32) : Prop := K11 (v1 + 1) isWord entries rdA
def wX12_readText_11 (length : Int32) (text : Nat → Int32) (P : Int32 → Int32 → Int32 → (Nat → Int32) → Prop) : Nat → Int32 → Int32 → Int32 → (Nat → Int32) → Prop
  | 0, _, _, _, _ => False
  | n + 1, v1, isWord, entries, rdA => (length ≤ v1 → P v1 isWord entries rdA) ∧ (¬ (length ≤ v1) → (isWord = 0 → vp_in v1 60 ∧ wX12_takesOutline entries (text v1.toNatClampNeg) (fun r_49 isWord_49 rdA_49 => (r_49 = 0 → P v1 isWord_49 entries rdA_49) ∧ (¬ (r_49 = 0) → wX12_readText_55 length text (wX12_readText_11 length text P n) P v1 isWord_49 entries rdA_49)) isWord rdA) ∧ (¬ (isWord = 0) → vp_in v1 60 ∧ wX12_takesWord (text v1.toNatClampNeg) (fun r_33 isWord_33 entries_33 rdA_33 => (r_33 = 0 → P v1 isWord_33 entries_33 rdA_33) ∧ (¬ (r_33 = 0) → wX12_readText_55 length text (wX12_readText_11 length text P n) P v1 isWord_33 entries_33 rdA_33)) isWord entries rdA))
def wX12_readText (length : Int32) (text : Nat → Int32) (P : Int32 → Int32 → Int32 → (Nat → Int32) → Prop) (isWord : Int32) (entries : Int32) (rdA : Nat → Int32) : Prop := wX12_beginEntry 0 (fun isWord_6 rdA_6 => ∃ n_11, wX12_readText_11 length text P n_11 0 isWord_6 0 rdA_6) isWord rdA
set_option maxHeartbeats 4000000 in
set_option maxRecDepth 100000 in
theorem kX12_readText (l : Launch) (g : kT) (a_this : Nat) (a_this_z : Nat) (a_this_saved : Nat) (a_this_text : Nat) (a_this_line : Nat) (a_this_aside : Nat) (a_this_read : Nat) (a_this_fewest : Nat) (thrown : Int32) (z : Nat → Int32) (saves : Int32) (saved : Nat → Int32) (length : Int32) (text : Nat → Int32) (many : Int32) (line : Nat → Int32) (aside : Nat → Int32) (isWord : Int32) (entries : Int32) (rdA : Nat → Int32) (fewest : Nat → Int32) (h : Int64) (P : Int32 → Int32 → Int32 → (Nat → Int32) → Prop) (hw : wX12_readText length text P isWord entries rdA) : Ki3 l g yX12_readText wsX12_readText 3 67 0 0 [.ref a_this] (gX12 g a_this a_this_z a_this_saved a_this_text a_this_line a_this_aside a_this_read a_this_fewest thrown z saves saved length text many line aside isWord entries rdA fewest h) P (fun isWord entries rdA => (gX12 g a_this a_this_z a_this_saved a_this_text a_this_line a_this_aside a_this_read a_this_fewest thrown z saves saved length text many line aside isWord entries rdA fewest h)) := by
  refine Ki3.mk (cc := cX12_readText) (nL := 2) (ty := .int) (by decide +kernel) rfl (Nat.le_of_ble_eq_true rfl) ?_
  intro p e s m below meth c A Q ls F hl V ret
  have hx := F.x
  have hb := F.b
  have hl : lv_has ls 2 [(0, .ref a_this)] := hl
  have B55 : ∀ (K11 : Int32 → Int32 → Int32 → (Nat → Int32) → Prop) (k11 : ∀ {H : Heap} {locs : List Loc} {ls : Array Slot} (v1 : Int32) (isWord : Int32) (entries : Int32) (rdA : Nat → Int32), VW g A s.heap H locs (gX12 g a_this a_this_z a_this_saved a_this_text a_this_line a_this_aside a_this_read a_this_fewest thrown z saves saved length text many line aside isWord entries rdA fewest h) → lv_has ls 2 [(0, .ref a_this), (1, .int v1)] → K11 v1 isWord entries rdA → W p l e (kR 3 67 0 0) s m ([.ref a_this] : List Value).toArray below meth c H locs 0 0 Q (F0 m 11 ls [])), ∀ {H : Heap} {locs : List Loc} {ls : Array Slot} (v1 : Int32) (isWord : Int32) (entries : Int32) (rdA : Nat → Int32) (V : VW g A s.heap H locs (gX12 g a_this a_this_z a_this_saved a_this_text a_this_line a_this_aside a_this_read a_this_fewest thrown z saves saved length text many line aside isWord entries rdA fewest h)) (hl : lv_has ls 2 [(0, .ref a_this), (1, .int v1)]) (hw : wX12_readText_55 length text K11 P v1 isWord entries rdA), W p l e (kR 3 67 0 0) s m ([.ref a_this] : List Value).toArray below meth c H locs 0 0 Q (F0 m 55 ls []) := by
    intro K11 k11 H locs ls v1 isWord entries rdA V hl hw
    refine lv_iinc (v := v1 + 1) (lv' := [(1, .int (v1 + 1)), (0, .ref a_this)]) hx hb dX12_readText_55 hl (k := 1) rfl rfl (by decide) rfl (fun ls hl => ?_)
    refine lv_goto (tgt := 11) hx hb dX12_readText_58 (by decide) ?_
    exact k11 (v1 + 1) isWord entries rdA V (lv_sub hl [1, 0] rfl) hw
  have B11 :  ∀ (n : Nat), ∀ {H : Heap} {locs : List Loc} {ls : Array Slot} (v1 : Int32) (isWord : Int32) (entries : Int32) (rdA : Nat → Int32) (V : VW g A s.heap H locs (gX12 g a_this a_this_z a_this_saved a_this_text a_this_line a_this_aside a_this_read a_this_fewest thrown z saves saved length text many line aside isWord entries rdA fewest h)) (hl : lv_has ls 2 [(0, .ref a_this), (1, .int v1)]) (hw : wX12_readText_11 length text P n v1 isWord entries rdA), W p l e (kR 3 67 0 0) s m ([.ref a_this] : List Value).toArray below meth c H locs 0 0 Q (F0 m 11 ls []) := by
    intro n
    induction n with
    | zero => intro _ _ _ _ _ _ _ V hl hw; exact hw.elim
    | succ n ih =>
      intro H locs ls v1 isWord entries rdA V hl hw
      refine lv_iload_n hx hb dX12_readText_11 rfl (lv_at hl 1 rfl) ?_
      refine lv_aload_n hx hb dX12_readText_12 rfl (lv_at hl 0 rfl) ?_
      refine kget F V 8 4 0 rfl rfl iX12_readText_X12 fX12_readText_121 (by decide) rfl rfl dX12_readText_13 ?_
      refine lv_icmp_ge (tgt := 61) hx hb dX12_readText_16 (by decide) (fun c_16 => ?_) (fun c_16 => ?_)
      · have hw := hw.1 c_16
        refine lv_iload_n hx hb dX12_readText_61 rfl (lv_at hl 1 rfl) ?_
        exact ret _ _ _ _ _ _ _ _ rfl dX12_readText_62 V hw
      · have hw := hw.2 c_16
        refine lv_aload_n hx hb dX12_readText_19 rfl (lv_at hl 0 rfl) ?_
        refine kget F V 8 9 0 rfl rfl iX12_readText_X12 fX12_readText_124 (by decide) rfl rfl dX12_readText_20 ?_
        refine lv_if_eq (tgt := 42) hx hb dX12_readText_23 (by decide) (fun c_23 => ?_) (fun c_23 => ?_)
        · have hw := hw.1 c_23
          refine lv_aload_n hx hb dX12_readText_42 rfl (lv_at hl 0 rfl) ?_
          refine lv_aload_n hx hb dX12_readText_43 rfl (lv_at hl 0 rfl) ?_
          refine kget F V 8 5 0 rfl rfl iX12_readText_X12 fX12_readText_16 (by decide) rfl rfl dX12_readText_44 ?_
          refine lv_iload_n hx hb dX12_readText_47 rfl (lv_at hl 1 rfl) ?_
          refine kiald F V 3 rfl hw.1 dX12_readText_48 ?_
          have hw := hw.2
          refine kVi2 (rest := []) F hl V [0, 1, 2, 3, 4, 5, 6, 7] [] [0, 1, 2, 3, 4, 5, 6, 7] (fun isWord_49 rdA_49 => (gX12 g a_this a_this_z a_this_saved a_this_text a_this_line a_this_aside a_this_read a_this_fewest thrown z saves saved length text many line aside isWord_49 entries rdA_49 fewest h)) a_this 8 0 rfl rfl (kX12_takesOutline l g a_this a_this_z a_this_saved a_this_text a_this_line a_this_aside a_this_read a_this_fewest thrown z saves saved length text many line aside isWord entries rdA fewest h (text v1.toNatClampNeg) _ hw) gX12_readText_X12_takesOutline rfl 1 rfl hdX12_takesOutline rfl rfl (fun _ _ => rfl) rfl rfl rfl (by decide) ⟨Nat.le_of_ble_eq_true rfl, Nat.le_of_ble_eq_true rfl⟩ ⟨Nat.le_of_ble_eq_true rfl, Nat.le_of_ble_eq_true rfl⟩ (Nat.le_of_ble_eq_true rfl) rfl dX12_readText_49 (fun r_49 isWord_49 rdA_49 H locs hw V => ?_)
          refine lv_if_eq (tgt := 61) hx hb dX12_readText_52 (by decide) (fun c_52 => ?_) (fun c_52 => ?_)
          · have hw := hw.1 c_52
            refine lv_iload_n hx hb dX12_readText_61 rfl (lv_at hl 1 rfl) ?_
            exact ret _ _ _ _ _ _ _ _ rfl dX12_readText_62 V hw
          · have hw := hw.2 c_52
            exact B55 (wX12_readText_11 length text P n) ih v1 isWord_49 entries rdA_49 V hl hw
        · have hw := hw.2 c_23
          refine lv_aload_n hx hb dX12_readText_26 rfl (lv_at hl 0 rfl) ?_
          refine lv_aload_n hx hb dX12_readText_27 rfl (lv_at hl 0 rfl) ?_
          refine kget F V 8 5 0 rfl rfl iX12_readText_X12 fX12_readText_16 (by decide) rfl rfl dX12_readText_28 ?_
          refine lv_iload_n hx hb dX12_readText_31 rfl (lv_at hl 1 rfl) ?_
          refine kiald F V 3 rfl hw.1 dX12_readText_32 ?_
          have hw := hw.2
          refine kVi3 (rest := []) F hl V [0, 1, 2, 3, 4, 5, 6, 7] [] [0, 1, 2, 3, 4, 5, 6, 7] (fun isWord_33 entries_33 rdA_33 => (gX12 g a_this a_this_z a_this_saved a_this_text a_this_line a_this_aside a_this_read a_this_fewest thrown z saves saved length text many line aside isWord_33 entries_33 rdA_33 fewest h)) a_this 8 0 rfl rfl (kX12_takesWord l g a_this a_this_z a_this_saved a_this_text a_this_line a_this_aside a_this_read a_this_fewest thrown z saves saved length text many line aside isWord entries rdA fewest h (text v1.toNatClampNeg) _ hw) gX12_readText_X12_takesWord rfl 1 rfl hdX12_takesWord rfl rfl (fun _ _ _ => rfl) rfl rfl rfl (by decide) ⟨Nat.le_of_ble_eq_true rfl, Nat.le_of_ble_eq_true rfl⟩ ⟨Nat.le_of_ble_eq_true rfl, Nat.le_of_ble_eq_true rfl⟩ (Nat.le_of_ble_eq_true rfl) rfl dX12_readText_33 (fun r_33 isWord_33 entries_33 rdA_33 H locs hw V => ?_)
          refine lv_if_eq (tgt := 61) hx hb dX12_readText_36 (by decide) (fun c_36 => ?_) (fun c_36 => ?_)
          · have hw := hw.1 c_36
            refine lv_iload_n hx hb dX12_readText_61 rfl (lv_at hl 1 rfl) ?_
            exact ret _ _ _ _ _ _ _ _ rfl dX12_readText_62 V hw
          · have hw := hw.2 c_36
            refine lv_goto (tgt := 55) hx hb dX12_readText_39 (by decide) ?_
            exact B55 (wX12_readText_11 length text P n) ih v1 isWord_33 entries_33 rdA_33 V hl hw
  refine lv_aload_n hx hb dX12_readText_0 rfl (lv_at hl 0 rfl) ?_
  refine lv_iconst (v := 0) hx hb dX12_readText_1 (by decide) ?_
  refine kput F V 8 10 0 tyX12_ok nmX12 rfl rfl iX12_readText_X12 fX12_readText_128 (by decide) rfl rfl rfl rfl (Nat.le_of_ble_eq_true rfl) dX12_readText_2 (fun H locs V => ?_)
  have V : VW g A s.heap H locs (gX12 g a_this a_this_z a_this_saved a_this_text a_this_line a_this_aside a_this_read a_this_fewest thrown z saves saved length text many line aside isWord 0 rdA fewest h) := V
  refine lv_aload_n hx hb dX12_readText_5 rfl (lv_at hl 0 rfl) ?_
  refine kVv2 (rest := []) F hl V [0, 1, 2, 3, 4, 5, 6, 7] [] [0, 1, 2, 3, 4, 5, 6, 7] (fun isWord_6 rdA_6 => (gX12 g a_this a_this_z a_this_saved a_this_text a_this_line a_this_aside a_this_read a_this_fewest thrown z saves saved length text many line aside isWord_6 0 rdA_6 fewest h)) a_this 8 0 rfl rfl (kX12_beginEntry l g a_this a_this_z a_this_saved a_this_text a_this_line a_this_aside a_this_read a_this_fewest thrown z saves saved length text many line aside isWord 0 rdA fewest h _ hw) gX12_readText_X12_beginEntry rfl 0 rfl hdX12_beginEntry rfl rfl (fun _ _ => rfl) rfl rfl rfl (by decide) ⟨Nat.le_of_ble_eq_true rfl, Nat.le_of_ble_eq_true rfl⟩ ⟨Nat.le_of_ble_eq_true rfl, Nat.le_of_ble_eq_true rfl⟩ (Nat.le_of_ble_eq_true rfl) rfl dX12_readText_6 (fun isWord_6 rdA_6 H locs hw V => ?_)
  refine lv_iconst (v := 0) hx hb dX12_readText_9 (by decide) ?_
  refine lv_istore_n (lv' := [(1, .int 0), (0, .ref a_this)]) hx hb dX12_readText_10 rfl hl (by decide) rfl (fun ls hl => ?_)
  obtain ⟨n_11, hw⟩ := hw
  exact B11  n_11 0 isWord_6 0 rdA_6 V (lv_sub hl [1, 0] rfl) hw
theorem hdX12_firstError : yX12_firstError.cls = RX12 ∧ yX12_firstError.cls ≠ "java/lang/invoke/MethodHandle" ∧ yX12_firstError.cls ≠ "java/lang/invoke/VarHandle" ∧ (parseMethodDescriptor yX12_firstError.desc).map (fun d => d.parameters.length) = some 0 := by decide +kernel
theorem fX12_firstError_31 : Cond.fieldLink RX12 31 RX12 "thrown" "I" ∈ wsX12_firstError := by decide +kernel
theorem iX12_firstError_X12 : ∀ w ∈ u_ws RX12 TX12 14, w ∈ wsX12_firstError := by decide +kernel
def wX12_firstError (length : Int32) (text : Nat → Int32) (P : Int32 → Int32 → Int32 → Int32 → (Nat → Int32) → Prop) (thrown : Int32) (isWord : Int32) (entries : Int32) (rdA : Nat → Int32) : Prop := wX12_readText length text (fun r_6 isWord_6 entries_6 rdA_6 => P r_6 0 isWord_6 entries_6 rdA_6) isWord entries rdA
set_option maxHeartbeats 4000000 in
set_option maxRecDepth 100000 in
theorem kX12_firstError (l : Launch) (g : kT) (a_this : Nat) (a_this_z : Nat) (a_this_saved : Nat) (a_this_text : Nat) (a_this_line : Nat) (a_this_aside : Nat) (a_this_read : Nat) (a_this_fewest : Nat) (thrown : Int32) (z : Nat → Int32) (saves : Int32) (saved : Nat → Int32) (length : Int32) (text : Nat → Int32) (many : Int32) (line : Nat → Int32) (aside : Nat → Int32) (isWord : Int32) (entries : Int32) (rdA : Nat → Int32) (fewest : Nat → Int32) (h : Int64) (P : Int32 → Int32 → Int32 → Int32 → (Nat → Int32) → Prop) (hw : wX12_firstError length text P thrown isWord entries rdA) : Ki4 l g yX12_firstError wsX12_firstError 4 88 0 0 [.ref a_this] (gX12 g a_this a_this_z a_this_saved a_this_text a_this_line a_this_aside a_this_read a_this_fewest thrown z saves saved length text many line aside isWord entries rdA fewest h) P (fun thrown isWord entries rdA => (gX12 g a_this a_this_z a_this_saved a_this_text a_this_line a_this_aside a_this_read a_this_fewest thrown z saves saved length text many line aside isWord entries rdA fewest h)) := by
  refine Ki4.mk (cc := cX12_firstError) (nL := 1) (ty := .int) (by decide +kernel) rfl (Nat.le_of_ble_eq_true rfl) ?_
  intro p e s m below meth c A Q ls F hl V ret
  have hx := F.x
  have hb := F.b
  have hl : lv_has ls 1 [(0, .ref a_this)] := hl
  refine lv_aload_n hx hb dX12_firstError_0 rfl (lv_at hl 0 rfl) ?_
  refine lv_iconst (v := 0) hx hb dX12_firstError_1 (by decide) ?_
  refine kput F V 8 0 0 tyX12_ok nmX12 rfl rfl iX12_firstError_X12 fX12_firstError_31 (by decide) rfl rfl rfl rfl (Nat.le_of_ble_eq_true rfl) dX12_firstError_2 (fun H locs V => ?_)
  have V : VW g A s.heap H locs (gX12 g a_this a_this_z a_this_saved a_this_text a_this_line a_this_aside a_this_read a_this_fewest 0 z saves saved length text many line aside isWord entries rdA fewest h) := V
  refine lv_aload_n hx hb dX12_firstError_5 rfl (lv_at hl 0 rfl) ?_
  refine kVi3 (rest := []) F hl V [0, 1, 2, 3, 4, 5, 6, 7] [] [0, 1, 2, 3, 4, 5, 6, 7] (fun isWord_6 entries_6 rdA_6 => (gX12 g a_this a_this_z a_this_saved a_this_text a_this_line a_this_aside a_this_read a_this_fewest 0 z saves saved length text many line aside isWord_6 entries_6 rdA_6 fewest h)) a_this 8 0 rfl rfl (kX12_readText l g a_this a_this_z a_this_saved a_this_text a_this_line a_this_aside a_this_read a_this_fewest 0 z saves saved length text many line aside isWord entries rdA fewest h _ hw) gX12_firstError_X12_readText rfl 0 rfl hdX12_readText rfl rfl (fun _ _ _ => rfl) rfl rfl rfl (by decide) ⟨Nat.le_of_ble_eq_true rfl, Nat.le_of_ble_eq_true rfl⟩ ⟨Nat.le_of_ble_eq_true rfl, Nat.le_of_ble_eq_true rfl⟩ (Nat.le_of_ble_eq_true rfl) rfl dX12_firstError_6 (fun r_6 isWord_6 entries_6 rdA_6 H locs hw V => ?_)
  exact ret _ _ _ _ _ _ _ _ _ rfl dX12_firstError_9 V hw
theorem hdX12_bringAll : yX12_bringAll.cls = RX12 ∧ yX12_bringAll.cls ≠ "java/lang/invoke/MethodHandle" ∧ yX12_bringAll.cls ≠ "java/lang/invoke/VarHandle" ∧ (parseMethodDescriptor yX12_bringAll.desc).map (fun d => d.parameters.length) = some 0 := by decide +kernel
theorem fX12_bringAll_7 : Cond.fieldLink RX12 7 RX12 "z" "[I" ∈ wsX12_bringAll := by decide +kernel
theorem iX12_bringAll_X12 : ∀ w ∈ u_ws RX12 TX12 14, w ∈ wsX12_bringAll := by decide +kernel
theorem fX12_bringAll_128 : Cond.fieldLink RX12 128 RX12 "entries" "I" ∈ wsX12_bringAll := by decide +kernel
theorem fX12_bringAll_25 : Cond.fieldLink RX12 25 RX12 "read" "[I" ∈ wsX12_bringAll := by decide +kernel
def wX12_bringAll_89 (entries : Int32) (rdA : Nat → Int32) (K24 : Int32 → Int32 → (Nat → Int32) → Prop) (P : Int32 → (Nat → Int32) → Prop) (v2 : Int32) (s0 : Int32) (z : Nat → Int32) : Prop := vp_in 0 1317 ∧ vp_in 0 1317 ∧ ∀ z_99 : Nat → Int32, z_99 = upd z (0 : Int32).toNatClampNeg ((z (0 : Int32).toNatClampNeg) + 1) → K24 s0 (v2 + 1) z_99
def wX12_bringAll_38 (entries : Int32) (rdA : Nat → Int32) (K24 : Int32 → Int32 → (Nat → Int32) → Prop) (P : Int32 → (Nat → Int32) → Prop) : Nat → Int32 → Int32 → (Nat → Int32) → Prop
  | 0, _, _, _ => False
  | n + 1, v2, v3, z => (14 ≤ v3 → wX12_isOutlineThere z (fun r_78 => (¬ r_78 = 0 → wX12_bringAll_89 entries rdA K24 P v2 0 z) ∧ (r_78 = 0 → wX12_bringAll_89 entries rdA K24 P v2 1 z))) ∧ (¬ (14 ≤ v3) → vp_in 0 1317 ∧ wX12_entryAt (z (0 : Int32).toNatClampNeg) (fun r_54 => vp_in ((14 * v2) + v3) 308 ∧ vp_in (r_54 + v3) 1317 ∧ ∀ z_70 : Nat → Int32, z_70 = upd z (r_54 + v3).toNatClampNeg (rdA ((14 * v2) + v3).toNatClampNeg) → (wX12_bringAll_38 entries rdA K24 P n) v2 (v3 + 1) z_70))
def wX12_bringAll_24 (entries : Int32) (rdA : Nat → Int32) (P : Int32 → (Nat → Int32) → Prop) : Nat → Int32 → Int32 → (Nat → Int32) → Prop
  | 0, _, _, _ => False
  | n + 1, v1, v2, z => (entries ≤ v2 → (v1 = 0 ∨ v1 = 1) ∧ P v1 z) ∧ (¬ (entries ≤ v2) → (v1 = 0 → (v1 = 0 ∨ v1 = 1) ∧ P v1 z) ∧ (¬ (v1 = 0) → ∃ n_38, wX12_bringAll_38 entries rdA (wX12_bringAll_24 entries rdA P n) P n_38 v2 0 z))
def wX12_bringAll_21 (entries : Int32) (rdA : Nat → Int32) (P : Int32 → (Nat → Int32) → Prop) (s0 : Int32) (z : Nat → Int32) : Prop := ∃ n_24, wX12_bringAll_24 entries rdA P n_24 s0 0 z
def wX12_bringAll (entries : Int32) (rdA : Nat → Int32) (P : Int32 → (Nat → Int32) → Prop) (z : Nat → Int32) : Prop := vp_in 0 1317 ∧ (24 < ((z (0 : Int32).toNatClampNeg) + entries) → wX12_bringAll_21 entries rdA P 0 z) ∧ (¬ (24 < ((z (0 : Int32).toNatClampNeg) + entries)) → wX12_bringAll_21 entries rdA P 1 z)
set_option maxHeartbeats 4000000 in
set_option maxRecDepth 100000 in
theorem kX12_bringAll (l : Launch) (g : kT) (a_this : Nat) (a_this_z : Nat) (a_this_saved : Nat) (a_this_text : Nat) (a_this_line : Nat) (a_this_aside : Nat) (a_this_read : Nat) (a_this_fewest : Nat) (thrown : Int32) (z : Nat → Int32) (saves : Int32) (saved : Nat → Int32) (length : Int32) (text : Nat → Int32) (many : Int32) (line : Nat → Int32) (aside : Nat → Int32) (isWord : Int32) (entries : Int32) (rdA : Nat → Int32) (fewest : Nat → Int32) (h : Int64) (P : Int32 → (Nat → Int32) → Prop) (hw : wX12_bringAll entries rdA P z) : Ki1 l g yX12_bringAll wsX12_bringAll 3 68 0 0 [.ref a_this] (gX12 g a_this a_this_z a_this_saved a_this_text a_this_line a_this_aside a_this_read a_this_fewest thrown z saves saved length text many line aside isWord entries rdA fewest h) P (fun z => (gX12 g a_this a_this_z a_this_saved a_this_text a_this_line a_this_aside a_this_read a_this_fewest thrown z saves saved length text many line aside isWord entries rdA fewest h)) := by
  refine Ki1.mk (cc := cX12_bringAll) (nL := 4) (ty := .boolean) (by decide +kernel) rfl (Nat.le_of_ble_eq_true rfl) ?_
  intro p e s m below meth c A Q ls F hl V ret
  have hx := F.x
  have hb := F.b
  have hl : lv_has ls 4 [(0, .ref a_this)] := hl
  have B89 : ∀ (K24 : Int32 → Int32 → (Nat → Int32) → Prop) (k24 : ∀ {H : Heap} {locs : List Loc} {ls : Array Slot} (v1 : Int32) (v2 : Int32) (z : Nat → Int32), VW g A s.heap H locs (gX12 g a_this a_this_z a_this_saved a_this_text a_this_line a_this_aside a_this_read a_this_fewest thrown z saves saved length text many line aside isWord entries rdA fewest h) → lv_has ls 4 [(0, .ref a_this), (1, .int v1), (2, .int v2)] → K24 v1 v2 z → W p l e (kR 3 68 0 0) s m ([.ref a_this] : List Value).toArray below meth c H locs 0 0 Q (F0 m 24 ls [])), ∀ {H : Heap} {locs : List Loc} {ls : Array Slot} (v2 : Int32) (s0 : Int32) (z : Nat → Int32) (V : VW g A s.heap H locs (gX12 g a_this a_this_z a_this_saved a_this_text a_this_line a_this_aside a_this_read a_this_fewest thrown z saves saved length text many line aside isWord entries rdA fewest h)) (hl : lv_has ls 4 [(0, .ref a_this), (2, .int v2)]) (hw : wX12_bringAll_89 entries rdA K24 P v2 s0 z), W p l e (kR 3 68 0 0) s m ([.ref a_this] : List Value).toArray below meth c H locs 0 0 Q (F0 m 89 ls [.int s0]) := by
    intro K24 k24 H locs ls v2 s0 z V hl hw
    refine lv_istore_n (lv' := [(1, .int s0), (0, .ref a_this), (2, .int v2)]) hx hb dX12_bringAll_89 rfl hl (by decide) rfl (fun ls hl => ?_)
    refine lv_aload_n hx hb dX12_bringAll_90 rfl (lv_at hl 1 rfl) ?_
    refine kget F V 8 1 0 rfl rfl iX12_bringAll_X12 fX12_bringAll_7 (by decide) rfl rfl dX12_bringAll_91 ?_
    refine lv_iconst (v := 0) hx hb dX12_bringAll_94 (by decide) ?_
    refine lv_dup2_11 hx hb dX12_bringAll_95 rfl rfl ?_
    refine kiald F V 1 rfl hw.1 dX12_bringAll_96 ?_
    have hw := hw.2
    refine lv_iconst (v := 1) hx hb dX12_bringAll_97 (by decide) ?_
    refine lv_iadd hx hb dX12_bringAll_98 ?_
    refine kiast F V 1 rfl hw.1 dX12_bringAll_99 (fun z_99 ez_99 H locs V => ?_)
    have hw := hw.2 z_99 ez_99
    have V : VW g A s.heap H locs (gX12 g a_this a_this_z a_this_saved a_this_text a_this_line a_this_aside a_this_read a_this_fewest thrown z_99 saves saved length text many line aside isWord entries rdA fewest h) := V
    refine lv_iinc (v := v2 + 1) (lv' := [(2, .int (v2 + 1)), (1, .int s0), (0, .ref a_this)]) hx hb dX12_bringAll_100 hl (k := 2) rfl rfl (by decide) rfl (fun ls hl => ?_)
    refine lv_goto (tgt := 24) hx hb dX12_bringAll_103 (by decide) ?_
    exact k24 s0 (v2 + 1) z_99 V (lv_sub hl [2, 1, 0] rfl) hw
  have B38 : ∀ (K24 : Int32 → Int32 → (Nat → Int32) → Prop) (k24 : ∀ {H : Heap} {locs : List Loc} {ls : Array Slot} (v1 : Int32) (v2 : Int32) (z : Nat → Int32), VW g A s.heap H locs (gX12 g a_this a_this_z a_this_saved a_this_text a_this_line a_this_aside a_this_read a_this_fewest thrown z saves saved length text many line aside isWord entries rdA fewest h) → lv_has ls 4 [(0, .ref a_this), (1, .int v1), (2, .int v2)] → K24 v1 v2 z → W p l e (kR 3 68 0 0) s m ([.ref a_this] : List Value).toArray below meth c H locs 0 0 Q (F0 m 24 ls [])), ∀ (n : Nat), ∀ {H : Heap} {locs : List Loc} {ls : Array Slot} (v2 : Int32) (v3 : Int32) (z : Nat → Int32) (V : VW g A s.heap H locs (gX12 g a_this a_this_z a_this_saved a_this_text a_this_line a_this_aside a_this_read a_this_fewest thrown z saves saved length text many line aside isWord entries rdA fewest h)) (hl : lv_has ls 4 [(0, .ref a_this), (2, .int v2), (3, .int v3)]) (hw : wX12_bringAll_38 entries rdA K24 P n v2 v3 z), W p l e (kR 3 68 0 0) s m ([.ref a_this] : List Value).toArray below meth c H locs 0 0 Q (F0 m 38 ls []) := by
    intro K24 k24
    intro n
    induction n with
    | zero => intro _ _ _ _ _ _ V hl hw; exact hw.elim
    | succ n ih =>
      intro H locs ls v2 v3 z V hl hw
      refine lv_iload_n hx hb dX12_bringAll_38 rfl (lv_at hl 2 rfl) ?_
      refine lv_bipush (v := 14) hx hb dX12_bringAll_39 (by decide) ?_
      refine lv_icmp_ge (tgt := 77) hx hb dX12_bringAll_41 (by decide) (fun c_41 => ?_) (fun c_41 => ?_)
      · have hw := hw.1 c_41
        refine lv_aload_n hx hb dX12_bringAll_77 rfl (lv_at hl 0 rfl) ?_
        refine kVi0 (rest := []) F hl V [0, 1, 2, 3, 4, 5, 6, 7] [] [0, 1, 2, 3, 4, 5, 6, 7] (gX12 g a_this a_this_z a_this_saved a_this_text a_this_line a_this_aside a_this_read a_this_fewest thrown z saves saved length text many line aside isWord entries rdA fewest h) a_this 8 0 rfl rfl (kX12_isOutlineThere l g a_this a_this_z a_this_saved a_this_text a_this_line a_this_aside a_this_read a_this_fewest thrown z saves saved length text many line aside isWord entries rdA fewest h _ hw) gX12_bringAll_X12_isOutlineThere rfl 0 rfl hdX12_isOutlineThere rfl rfl (fun _ => rfl) rfl rfl rfl (by decide) ⟨Nat.le_of_ble_eq_true rfl, Nat.le_of_ble_eq_true rfl⟩ ⟨Nat.le_of_ble_eq_true rfl, Nat.le_of_ble_eq_true rfl⟩ (Nat.le_of_ble_eq_true rfl) rfl dX12_bringAll_78 (fun r_78 H locs hw V => ?_)
        refine lv_if_ne (tgt := 88) hx hb dX12_bringAll_81 (by decide) (fun c_81 => ?_) (fun c_81 => ?_)
        · have hw := hw.1 c_81
          refine lv_iconst (v := 0) hx hb dX12_bringAll_88 (by decide) ?_
          exact B89 K24 k24 v2 0 z V (lv_sub hl [0, 1] rfl) hw
        · have hw := hw.2 c_81
          refine lv_iconst (v := 1) hx hb dX12_bringAll_84 (by decide) ?_
          refine lv_goto (tgt := 89) hx hb dX12_bringAll_85 (by decide) ?_
          exact B89 K24 k24 v2 1 z V (lv_sub hl [0, 1] rfl) hw
      · have hw := hw.2 c_41
        refine lv_aload_n hx hb dX12_bringAll_44 rfl (lv_at hl 0 rfl) ?_
        refine kget F V 8 1 0 rfl rfl iX12_bringAll_X12 fX12_bringAll_7 (by decide) rfl rfl dX12_bringAll_45 ?_
        refine lv_aload_n hx hb dX12_bringAll_48 rfl (lv_at hl 0 rfl) ?_
        refine kget F V 8 1 0 rfl rfl iX12_bringAll_X12 fX12_bringAll_7 (by decide) rfl rfl dX12_bringAll_49 ?_
        refine lv_iconst (v := 0) hx hb dX12_bringAll_52 (by decide) ?_
        refine kiald F V 1 rfl hw.1 dX12_bringAll_53 ?_
        have hw := hw.2
        refine kSi0n (rest := [.ref a_this_z]) F hl V (kX12_entryAt l g (z (0 : Int32).toNatClampNeg) _ hw) gX12_bringAll_X12_entryAt rfl 1 rfl hdX12_entryAt ⟨Nat.le_of_ble_eq_true rfl, Nat.le_of_ble_eq_true rfl⟩ ⟨Nat.le_of_ble_eq_true rfl, Nat.le_of_ble_eq_true rfl⟩ (Nat.le_of_ble_eq_true rfl) rfl dX12_bringAll_54 (fun r_54 H locs hw V => ?_)
        refine lv_iload_n hx hb dX12_bringAll_57 rfl (lv_at hl 2 rfl) ?_
        refine lv_iadd hx hb dX12_bringAll_58 ?_
        refine lv_aload_n hx hb dX12_bringAll_59 rfl (lv_at hl 0 rfl) ?_
        refine kget F V 8 11 0 rfl rfl iX12_bringAll_X12 fX12_bringAll_25 (by decide) rfl rfl dX12_bringAll_60 ?_
        refine lv_bipush (v := 14) hx hb dX12_bringAll_63 (by decide) ?_
        refine lv_iload_n hx hb dX12_bringAll_65 rfl (lv_at hl 1 rfl) ?_
        refine lv_imul hx hb dX12_bringAll_66 ?_
        refine lv_iload_n hx hb dX12_bringAll_67 rfl (lv_at hl 2 rfl) ?_
        refine lv_iadd hx hb dX12_bringAll_68 ?_
        refine kiald F V 6 rfl hw.1 dX12_bringAll_69 ?_
        have hw := hw.2
        refine kiast F V 1 rfl hw.1 dX12_bringAll_70 (fun z_70 ez_70 H locs V => ?_)
        have hw := hw.2 z_70 ez_70
        have V : VW g A s.heap H locs (gX12 g a_this a_this_z a_this_saved a_this_text a_this_line a_this_aside a_this_read a_this_fewest thrown z_70 saves saved length text many line aside isWord entries rdA fewest h) := V
        refine lv_iinc (v := v3 + 1) (lv' := [(3, .int (v3 + 1)), (0, .ref a_this), (2, .int v2)]) hx hb dX12_bringAll_71 hl (k := 2) rfl rfl (by decide) rfl (fun ls hl => ?_)
        refine lv_goto (tgt := 38) hx hb dX12_bringAll_74 (by decide) ?_
        exact ih v2 (v3 + 1) z_70 V (lv_sub hl [1, 2, 0] rfl) hw
  have B24 :  ∀ (n : Nat), ∀ {H : Heap} {locs : List Loc} {ls : Array Slot} (v1 : Int32) (v2 : Int32) (z : Nat → Int32) (V : VW g A s.heap H locs (gX12 g a_this a_this_z a_this_saved a_this_text a_this_line a_this_aside a_this_read a_this_fewest thrown z saves saved length text many line aside isWord entries rdA fewest h)) (hl : lv_has ls 4 [(0, .ref a_this), (1, .int v1), (2, .int v2)]) (hw : wX12_bringAll_24 entries rdA P n v1 v2 z), W p l e (kR 3 68 0 0) s m ([.ref a_this] : List Value).toArray below meth c H locs 0 0 Q (F0 m 24 ls []) := by
    intro n
    induction n with
    | zero => intro _ _ _ _ _ _ V hl hw; exact hw.elim
    | succ n ih =>
      intro H locs ls v1 v2 z V hl hw
      refine lv_iload_n hx hb dX12_bringAll_24 rfl (lv_at hl 2 rfl) ?_
      refine lv_aload_n hx hb dX12_bringAll_25 rfl (lv_at hl 0 rfl) ?_
      refine kget F V 8 10 0 rfl rfl iX12_bringAll_X12 fX12_bringAll_128 (by decide) rfl rfl dX12_bringAll_26 ?_
      refine lv_icmp_ge (tgt := 106) hx hb dX12_bringAll_29 (by decide) (fun c_29 => ?_) (fun c_29 => ?_)
      · have hw := hw.1 c_29
        refine lv_iload_n hx hb dX12_bringAll_106 rfl (lv_at hl 1 rfl) ?_
        exact ret _ _ _ _ _ _ (k01n hw.1) dX12_bringAll_107 V hw.2
      · have hw := hw.2 c_29
        refine lv_iload_n hx hb dX12_bringAll_32 rfl (lv_at hl 1 rfl) ?_
        refine lv_if_eq (tgt := 106) hx hb dX12_bringAll_33 (by decide) (fun c_33 => ?_) (fun c_33 => ?_)
        · have hw := hw.1 c_33
          refine lv_iload_n hx hb dX12_bringAll_106 rfl (lv_at hl 1 rfl) ?_
          exact ret _ _ _ _ _ _ (k01n hw.1) dX12_bringAll_107 V hw.2
        · have hw := hw.2 c_33
          refine lv_iconst (v := 0) hx hb dX12_bringAll_36 (by decide) ?_
          refine lv_istore_n (lv' := [(3, .int 0), (0, .ref a_this), (1, .int v1), (2, .int v2)]) hx hb dX12_bringAll_37 rfl hl (by decide) rfl (fun ls hl => ?_)
          obtain ⟨n_38, hw⟩ := hw
          exact B38 (wX12_bringAll_24 entries rdA P n) ih n_38 v2 0 z V (lv_sub hl [1, 3, 0] rfl) hw
  have B21 :  ∀ {H : Heap} {locs : List Loc} {ls : Array Slot} (s0 : Int32) (z : Nat → Int32) (V : VW g A s.heap H locs (gX12 g a_this a_this_z a_this_saved a_this_text a_this_line a_this_aside a_this_read a_this_fewest thrown z saves saved length text many line aside isWord entries rdA fewest h)) (hl : lv_has ls 4 [(0, .ref a_this)]) (hw : wX12_bringAll_21 entries rdA P s0 z), W p l e (kR 3 68 0 0) s m ([.ref a_this] : List Value).toArray below meth c H locs 0 0 Q (F0 m 21 ls [.int s0]) := by
    intro  H locs ls s0 z V hl hw
    refine lv_istore_n (lv' := [(1, .int s0), (0, .ref a_this)]) hx hb dX12_bringAll_21 rfl hl (by decide) rfl (fun ls hl => ?_)
    refine lv_iconst (v := 0) hx hb dX12_bringAll_22 (by decide) ?_
    refine lv_istore_n (lv' := [(2, .int 0), (1, .int s0), (0, .ref a_this)]) hx hb dX12_bringAll_23 rfl hl (by decide) rfl (fun ls hl => ?_)
    obtain ⟨n_24, hw⟩ := hw
    exact B24  n_24 s0 0 z V (lv_sub hl [2, 1, 0] rfl) hw
  refine lv_aload_n hx hb dX12_bringAll_0 rfl (lv_at hl 0 rfl) ?_
  refine kget F V 8 1 0 rfl rfl iX12_bringAll_X12 fX12_bringAll_7 (by decide) rfl rfl dX12_bringAll_1 ?_
  refine lv_iconst (v := 0) hx hb dX12_bringAll_4 (by decide) ?_
  refine kiald F V 1 rfl hw.1 dX12_bringAll_5 ?_
  have hw := hw.2
  refine lv_aload_n hx hb dX12_bringAll_6 rfl (lv_at hl 0 rfl) ?_
  refine kget F V 8 10 0 rfl rfl iX12_bringAll_X12 fX12_bringAll_128 (by decide) rfl rfl dX12_bringAll_7 ?_
  refine lv_iadd hx hb dX12_bringAll_10 ?_
  refine lv_bipush (v := 24) hx hb dX12_bringAll_11 (by decide) ?_
  refine lv_icmp_gt (tgt := 20) hx hb dX12_bringAll_13 (by decide) (fun c_13 => ?_) (fun c_13 => ?_)
  · have hw := hw.1 c_13
    refine lv_iconst (v := 0) hx hb dX12_bringAll_20 (by decide) ?_
    exact B21  0 z V hl hw
  · have hw := hw.2 c_13
    refine lv_iconst (v := 1) hx hb dX12_bringAll_16 (by decide) ?_
    refine lv_goto (tgt := 21) hx hb dX12_bringAll_17 (by decide) ?_
    exact B21  1 z V hl hw
theorem hdX12_canBring : yX12_canBring.cls = RX12 ∧ yX12_canBring.cls ≠ "java/lang/invoke/MethodHandle" ∧ yX12_canBring.cls ≠ "java/lang/invoke/VarHandle" ∧ (parseMethodDescriptor yX12_canBring.desc).map (fun d => d.parameters.length) = some 0 := by decide +kernel
def wX12_canBring (entries : Int32) (rdA : Nat → Int32) (P : Int32 → (Nat → Int32) → (Nat → Int32) → Prop) (z : Nat → Int32) (aside : Nat → Int32) : Prop := wX12_keepAside z (fun aside_1 => wX12_bringAll entries rdA (fun r_5 z_5 => wX12_takeAside aside_1 (fun z_10 => (r_5 = 0 ∨ r_5 = 1) ∧ P r_5 z_10 aside_1) z_5) z) aside
set_option maxHeartbeats 4000000 in
set_option maxRecDepth 100000 in
theorem kX12_canBring (l : Launch) (g : kT) (a_this : Nat) (a_this_z : Nat) (a_this_saved : Nat) (a_this_text : Nat) (a_this_line : Nat) (a_this_aside : Nat) (a_this_read : Nat) (a_this_fewest : Nat) (thrown : Int32) (z : Nat → Int32) (saves : Int32) (saved : Nat → Int32) (length : Int32) (text : Nat → Int32) (many : Int32) (line : Nat → Int32) (aside : Nat → Int32) (isWord : Int32) (entries : Int32) (rdA : Nat → Int32) (fewest : Nat → Int32) (h : Int64) (P : Int32 → (Nat → Int32) → (Nat → Int32) → Prop) (hw : wX12_canBring entries rdA P z aside) : Ki2 l g yX12_canBring wsX12_canBring 4 91 0 0 [.ref a_this] (gX12 g a_this a_this_z a_this_saved a_this_text a_this_line a_this_aside a_this_read a_this_fewest thrown z saves saved length text many line aside isWord entries rdA fewest h) P (fun z aside => (gX12 g a_this a_this_z a_this_saved a_this_text a_this_line a_this_aside a_this_read a_this_fewest thrown z saves saved length text many line aside isWord entries rdA fewest h)) := by
  refine Ki2.mk (cc := cX12_canBring) (nL := 2) (ty := .boolean) (by decide +kernel) rfl (Nat.le_of_ble_eq_true rfl) ?_
  intro p e s m below meth c A Q ls F hl V ret
  have hx := F.x
  have hb := F.b
  have hl : lv_has ls 2 [(0, .ref a_this)] := hl
  refine lv_aload_n hx hb dX12_canBring_0 rfl (lv_at hl 0 rfl) ?_
  refine kVv1 (rest := []) F hl V [0, 1, 2, 3, 4, 5, 6, 7] [] [0, 1, 2, 3, 4, 5, 6, 7] (fun aside_1 => (gX12 g a_this a_this_z a_this_saved a_this_text a_this_line a_this_aside a_this_read a_this_fewest thrown z saves saved length text many line aside_1 isWord entries rdA fewest h)) a_this 8 0 rfl rfl (kX12_keepAside l g a_this a_this_z a_this_saved a_this_text a_this_line a_this_aside a_this_read a_this_fewest thrown z saves saved length text many line aside isWord entries rdA fewest h _ hw) gX12_canBring_X12_keepAside rfl 0 rfl hdX12_keepAside rfl rfl (fun _ => rfl) rfl rfl rfl (by decide) ⟨Nat.le_of_ble_eq_true rfl, Nat.le_of_ble_eq_true rfl⟩ ⟨Nat.le_of_ble_eq_true rfl, Nat.le_of_ble_eq_true rfl⟩ (Nat.le_of_ble_eq_true rfl) rfl dX12_canBring_1 (fun aside_1 H locs hw V => ?_)
  refine lv_aload_n hx hb dX12_canBring_4 rfl (lv_at hl 0 rfl) ?_
  refine kVi1 (rest := []) F hl V [0, 1, 2, 3, 4, 5, 6, 7] [] [0, 1, 2, 3, 4, 5, 6, 7] (fun z_5 => (gX12 g a_this a_this_z a_this_saved a_this_text a_this_line a_this_aside a_this_read a_this_fewest thrown z_5 saves saved length text many line aside_1 isWord entries rdA fewest h)) a_this 8 0 rfl rfl (kX12_bringAll l g a_this a_this_z a_this_saved a_this_text a_this_line a_this_aside a_this_read a_this_fewest thrown z saves saved length text many line aside_1 isWord entries rdA fewest h _ hw) gX12_canBring_X12_bringAll rfl 0 rfl hdX12_bringAll rfl rfl (fun _ => rfl) rfl rfl rfl (by decide) ⟨Nat.le_of_ble_eq_true rfl, Nat.le_of_ble_eq_true rfl⟩ ⟨Nat.le_of_ble_eq_true rfl, Nat.le_of_ble_eq_true rfl⟩ (Nat.le_of_ble_eq_true rfl) rfl dX12_canBring_5 (fun r_5 z_5 H locs hw V => ?_)
  refine lv_istore_n (lv' := [(1, .int r_5), (0, .ref a_this)]) hx hb dX12_canBring_8 rfl hl (by decide) rfl (fun ls hl => ?_)
  refine lv_aload_n hx hb dX12_canBring_9 rfl (lv_at hl 1 rfl) ?_
  refine kVv1 (rest := []) F hl V [0, 1, 2, 3, 4, 5, 6, 7] [] [0, 1, 2, 3, 4, 5, 6, 7] (fun z_10 => (gX12 g a_this a_this_z a_this_saved a_this_text a_this_line a_this_aside a_this_read a_this_fewest thrown z_10 saves saved length text many line aside_1 isWord entries rdA fewest h)) a_this 8 0 rfl rfl (kX12_takeAside l g a_this a_this_z a_this_saved a_this_text a_this_line a_this_aside a_this_read a_this_fewest thrown z_5 saves saved length text many line aside_1 isWord entries rdA fewest h _ hw) gX12_canBring_X12_takeAside rfl 0 rfl hdX12_takeAside rfl rfl (fun _ => rfl) rfl rfl rfl (by decide) ⟨Nat.le_of_ble_eq_true rfl, Nat.le_of_ble_eq_true rfl⟩ ⟨Nat.le_of_ble_eq_true rfl, Nat.le_of_ble_eq_true rfl⟩ (Nat.le_of_ble_eq_true rfl) rfl dX12_canBring_10 (fun z_10 H locs hw V => ?_)
  refine lv_iload_n hx hb dX12_canBring_13 rfl (lv_at hl 0 rfl) ?_
  exact ret _ _ _ _ _ _ _ (k01n hw.1) dX12_canBring_14 V hw.2
theorem hdX12_load : yX12_load.cls = RX12 ∧ yX12_load.cls ≠ "java/lang/invoke/MethodHandle" ∧ yX12_load.cls ≠ "java/lang/invoke/VarHandle" ∧ (parseMethodDescriptor yX12_load.desc).map (fun d => d.parameters.length) = some 0 := by decide +kernel
theorem fX12_load_121 : Cond.fieldLink RX12 121 RX12 "length" "I" ∈ wsX12_load := by decide +kernel
theorem iX12_load_X12 : ∀ w ∈ u_ws RX12 TX12 14, w ∈ wsX12_load := by decide +kernel
theorem fX12_load_124 : Cond.fieldLink RX12 124 RX12 "isWord" "Z" ∈ wsX12_load := by decide +kernel
theorem fX12_load_25 : Cond.fieldLink RX12 25 RX12 "read" "[I" ∈ wsX12_load := by decide +kernel
theorem fX12_load_128 : Cond.fieldLink RX12 128 RX12 "entries" "I" ∈ wsX12_load := by decide +kernel
theorem fX12_load_31 : Cond.fieldLink RX12 31 RX12 "thrown" "I" ∈ wsX12_load := by decide +kernel
theorem fX12_load_7 : Cond.fieldLink RX12 7 RX12 "z" "[I" ∈ wsX12_load := by decide +kernel
def wX12_load_80 (text : Nat → Int32) (P : Int32 → Int32 → (Nat → Int32) → Int32 → (Nat → Int32) → Int32 → Int32 → (Nat → Int32) → (Nat → Int32) → Int32 → Int32 → (Nat → Int32) → Prop) (s1 : Int32) (thrown : Int32) (z : Nat → Int32) (saves : Int32) (saved : Nat → Int32) (length : Int32) (many : Int32) (line : Nat → Int32) (aside : Nat → Int32) (isWord : Int32) (entries : Int32) (rdA : Nat → Int32) : Prop := (s1 ≤ 0 → wX12_save z (fun saves_93 saved_93 => wX12_bringAll entries rdA (fun r_97 z_97 => wX12_translate (fun z_102 many_102 line_102 => vp_in 0 1317 ∧ P (z_102 (0 : Int32).toNatClampNeg) s1 z_102 saves_93 saved_93 0 many_102 line_102 aside isWord entries rdA) z_97 many line) z) saves saved) ∧ (¬ (s1 ≤ 0) → P 0 s1 z saves saved length many line aside isWord entries rdA)
def wX12_load_55 (text : Nat → Int32) (P : Int32 → Int32 → (Nat → Int32) → Int32 → (Nat → Int32) → Int32 → Int32 → (Nat → Int32) → (Nat → Int32) → Int32 → Int32 → (Nat → Int32) → Prop) (v1 : Int32) (s1 : Int32) (s2 : Int32) (thrown : Int32) (z : Nat → Int32) (saves : Int32) (saved : Nat → Int32) (length : Int32) (many : Int32) (line : Nat → Int32) (aside : Nat → Int32) (isWord : Int32) (entries : Int32) (rdA : Nat → Int32) : Prop := ∀ entries_56 : Int32, entries_56 = (s1 + s2) → (¬ v1 = 0 → wX12_canBring entries_56 rdA (fun r_69 z_69 aside_69 => (r_69 = 0 → wX12_load_80 text P 2 thrown z_69 saves saved length many line aside_69 isWord entries_56 rdA) ∧ (¬ (r_69 = 0) → wX12_load_80 text P 0 thrown z_69 saves saved length many line aside_69 isWord entries_56 rdA)) z aside) ∧ (v1 = 0 → wX12_load_80 text P 1 thrown z saves saved length many line aside isWord entries_56 rdA)
def wX12_load_40 (text : Nat → Int32) (P : Int32 → Int32 → (Nat → Int32) → Int32 → (Nat → Int32) → Int32 → Int32 → (Nat → Int32) → (Nat → Int32) → Int32 → Int32 → (Nat → Int32) → Prop) (s0 : Int32) (thrown : Int32) (z : Nat → Int32) (saves : Int32) (saved : Nat → Int32) (length : Int32) (many : Int32) (line : Nat → Int32) (aside : Nat → Int32) (isWord : Int32) (entries : Int32) (rdA : Nat → Int32) : Prop := (s0 = 0 → wX12_load_55 text P s0 entries 0 thrown z saves saved length many line aside isWord entries rdA) ∧ (¬ (s0 = 0) → wX12_load_55 text P s0 entries 1 thrown z saves saved length many line aside isWord entries rdA)
def wX12_load_39 (text : Nat → Int32) (P : Int32 → Int32 → (Nat → Int32) → Int32 → (Nat → Int32) → Int32 → Int32 → (Nat → Int32) → (Nat → Int32) → Int32 → Int32 → (Nat → Int32) → Prop) (thrown : Int32) (z : Nat → Int32) (saves : Int32) (saved : Nat → Int32) (length : Int32) (many : Int32) (line : Nat → Int32) (aside : Nat → Int32) (isWord : Int32) (entries : Int32) (rdA : Nat → Int32) : Prop := wX12_load_40 text P 0 thrown z saves saved length many line aside isWord entries rdA
def wX12_load (text : Nat → Int32) (P : Int32 → Int32 → (Nat → Int32) → Int32 → (Nat → Int32) → Int32 → Int32 → (Nat → Int32) → (Nat → Int32) → Int32 → Int32 → (Nat → Int32) → Prop) (thrown : Int32) (z : Nat → Int32) (saves : Int32) (saved : Nat → Int32) (length : Int32) (many : Int32) (line : Nat → Int32) (aside : Nat → Int32) (isWord : Int32) (entries : Int32) (rdA : Nat → Int32) : Prop := wX12_readText length text (fun r_1 isWord_1 entries_1 rdA_1 => (¬ r_1 = length → wX12_load_39 text P thrown z saves saved length many line aside isWord_1 entries_1 rdA_1) ∧ (r_1 = length → (isWord_1 = 0 → wX12_load_39 text P thrown z saves saved length many line aside isWord_1 entries_1 rdA_1) ∧ (¬ (isWord_1 = 0) → vp_in ((14 * entries_1) + 5) 308 ∧ ((rdA_1 ((14 * entries_1) + 5).toNatClampNeg) ≤ 0 → wX12_load_39 text P thrown z saves saved length many line aside isWord_1 entries_1 rdA_1) ∧ (¬ ((rdA_1 ((14 * entries_1) + 5).toNatClampNeg) ≤ 0) → wX12_load_40 text P 1 thrown z saves saved length many line aside isWord_1 entries_1 rdA_1)))) isWord entries rdA
set_option maxHeartbeats 4000000 in
set_option maxRecDepth 100000 in
theorem kX12_load (l : Launch) (g : kT) (a_this : Nat) (a_this_z : Nat) (a_this_saved : Nat) (a_this_text : Nat) (a_this_line : Nat) (a_this_aside : Nat) (a_this_read : Nat) (a_this_fewest : Nat) (thrown : Int32) (z : Nat → Int32) (saves : Int32) (saved : Nat → Int32) (length : Int32) (text : Nat → Int32) (many : Int32) (line : Nat → Int32) (aside : Nat → Int32) (isWord : Int32) (entries : Int32) (rdA : Nat → Int32) (fewest : Nat → Int32) (h : Int64) (P : Int32 → Int32 → (Nat → Int32) → Int32 → (Nat → Int32) → Int32 → Int32 → (Nat → Int32) → (Nat → Int32) → Int32 → Int32 → (Nat → Int32) → Prop) (hw : wX12_load text P thrown z saves saved length many line aside isWord entries rdA) : Ki11 l g yX12_load wsX12_load 5 112 0 0 [.ref a_this] (gX12 g a_this a_this_z a_this_saved a_this_text a_this_line a_this_aside a_this_read a_this_fewest thrown z saves saved length text many line aside isWord entries rdA fewest h) P (fun thrown z saves saved length many line aside isWord entries rdA => (gX12 g a_this a_this_z a_this_saved a_this_text a_this_line a_this_aside a_this_read a_this_fewest thrown z saves saved length text many line aside isWord entries rdA fewest h)) := by
  refine Ki11.mk (cc := cX12_load) (nL := 2) (ty := .int) (by decide +kernel) rfl (Nat.le_of_ble_eq_true rfl) ?_
  intro p e s m below meth c A Q ls F hl V ret
  have hx := F.x
  have hb := F.b
  have hl : lv_has ls 2 [(0, .ref a_this)] := hl
  have B80 :  ∀ {H : Heap} {locs : List Loc} {ls : Array Slot} (s1 : Int32) (thrown : Int32) (z : Nat → Int32) (saves : Int32) (saved : Nat → Int32) (length : Int32) (many : Int32) (line : Nat → Int32) (aside : Nat → Int32) (isWord : Int32) (entries : Int32) (rdA : Nat → Int32) (V : VW g A s.heap H locs (gX12 g a_this a_this_z a_this_saved a_this_text a_this_line a_this_aside a_this_read a_this_fewest thrown z saves saved length text many line aside isWord entries rdA fewest h)) (hl : lv_has ls 2 [(0, .ref a_this)]) (hw : wX12_load_80 text P s1 thrown z saves saved length many line aside isWord entries rdA), W p l e (kR 5 112 0 0) s m ([.ref a_this] : List Value).toArray below meth c H locs 0 0 Q (F0 m 80 ls [.int s1, .ref a_this]) := by
    intro  H locs ls s1 thrown z saves saved length many line aside isWord entries rdA V hl hw
    refine kput F V 8 0 0 tyX12_ok nmX12 rfl rfl iX12_load_X12 fX12_load_31 (by decide) rfl rfl rfl rfl (Nat.le_of_ble_eq_true rfl) dX12_load_80 (fun H locs V => ?_)
    have V : VW g A s.heap H locs (gX12 g a_this a_this_z a_this_saved a_this_text a_this_line a_this_aside a_this_read a_this_fewest s1 z saves saved length text many line aside isWord entries rdA fewest h) := V
    refine lv_aload_n hx hb dX12_load_83 rfl (lv_at hl 0 rfl) ?_
    refine kget F V 8 0 0 rfl rfl iX12_load_X12 fX12_load_31 (by decide) rfl rfl dX12_load_84 ?_
    refine lv_if_le (tgt := 92) hx hb dX12_load_87 (by decide) (fun c_87 => ?_) (fun c_87 => ?_)
    · have hw := hw.1 c_87
      refine lv_aload_n hx hb dX12_load_92 rfl (lv_at hl 0 rfl) ?_
      refine kVv2 (rest := []) F hl V [0, 1, 2, 3, 4, 5, 6, 7] [] [0, 1, 2, 3, 4, 5, 6, 7] (fun saves_93 saved_93 => (gX12 g a_this a_this_z a_this_saved a_this_text a_this_line a_this_aside a_this_read a_this_fewest s1 z saves_93 saved_93 length text many line aside isWord entries rdA fewest h)) a_this 8 0 rfl rfl (kX12_save l g a_this a_this_z a_this_saved a_this_text a_this_line a_this_aside a_this_read a_this_fewest s1 z saves saved length text many line aside isWord entries rdA fewest h _ hw) gX12_load_X12_save rfl 0 rfl hdX12_save rfl rfl (fun _ _ => rfl) rfl rfl rfl (by decide) ⟨Nat.le_of_ble_eq_true rfl, Nat.le_of_ble_eq_true rfl⟩ ⟨Nat.le_of_ble_eq_true rfl, Nat.le_of_ble_eq_true rfl⟩ (Nat.le_of_ble_eq_true rfl) rfl dX12_load_93 (fun saves_93 saved_93 H locs hw V => ?_)
      refine lv_aload_n hx hb dX12_load_96 rfl (lv_at hl 0 rfl) ?_
      refine kVi1 (rest := []) F hl V [0, 1, 2, 3, 4, 5, 6, 7] [] [0, 1, 2, 3, 4, 5, 6, 7] (fun z_97 => (gX12 g a_this a_this_z a_this_saved a_this_text a_this_line a_this_aside a_this_read a_this_fewest s1 z_97 saves_93 saved_93 length text many line aside isWord entries rdA fewest h)) a_this 8 0 rfl rfl (kX12_bringAll l g a_this a_this_z a_this_saved a_this_text a_this_line a_this_aside a_this_read a_this_fewest s1 z saves_93 saved_93 length text many line aside isWord entries rdA fewest h _ hw) gX12_load_X12_bringAll rfl 0 rfl hdX12_bringAll rfl rfl (fun _ => rfl) rfl rfl rfl (by decide) ⟨Nat.le_of_ble_eq_true rfl, Nat.le_of_ble_eq_true rfl⟩ ⟨Nat.le_of_ble_eq_true rfl, Nat.le_of_ble_eq_true rfl⟩ (Nat.le_of_ble_eq_true rfl) rfl dX12_load_97 (fun r_97 z_97 H locs hw V => ?_)
      refine lv_pop hx hb dX12_load_100 rfl ?_
      refine lv_aload_n hx hb dX12_load_101 rfl (lv_at hl 0 rfl) ?_
      refine kVv3 (rest := []) F hl V [0, 1, 2, 3, 4, 5, 6, 7] [] [0, 1, 2, 3, 4, 5, 6, 7] (fun z_102 many_102 line_102 => (gX12 g a_this a_this_z a_this_saved a_this_text a_this_line a_this_aside a_this_read a_this_fewest s1 z_102 saves_93 saved_93 length text many_102 line_102 aside isWord entries rdA fewest h)) a_this 8 0 rfl rfl (kX12_translate l g a_this a_this_z a_this_saved a_this_text a_this_line a_this_aside a_this_read a_this_fewest s1 z_97 saves_93 saved_93 length text many line aside isWord entries rdA fewest h _ hw) gX12_load_X12_translate rfl 0 rfl hdX12_translate rfl rfl (fun _ _ _ => rfl) rfl rfl rfl (by decide) ⟨Nat.le_of_ble_eq_true rfl, Nat.le_of_ble_eq_true rfl⟩ ⟨Nat.le_of_ble_eq_true rfl, Nat.le_of_ble_eq_true rfl⟩ (Nat.le_of_ble_eq_true rfl) rfl dX12_load_102 (fun z_102 many_102 line_102 H locs hw V => ?_)
      refine lv_aload_n hx hb dX12_load_105 rfl (lv_at hl 0 rfl) ?_
      refine lv_iconst (v := 0) hx hb dX12_load_106 (by decide) ?_
      refine kput F V 8 4 0 tyX12_ok nmX12 rfl rfl iX12_load_X12 fX12_load_121 (by decide) rfl rfl rfl rfl (Nat.le_of_ble_eq_true rfl) dX12_load_107 (fun H locs V => ?_)
      have V : VW g A s.heap H locs (gX12 g a_this a_this_z a_this_saved a_this_text a_this_line a_this_aside a_this_read a_this_fewest s1 z_102 saves_93 saved_93 0 text many_102 line_102 aside isWord entries rdA fewest h) := V
      refine lv_aload_n hx hb dX12_load_110 rfl (lv_at hl 0 rfl) ?_
      refine kget F V 8 1 0 rfl rfl iX12_load_X12 fX12_load_7 (by decide) rfl rfl dX12_load_111 ?_
      refine lv_iconst (v := 0) hx hb dX12_load_114 (by decide) ?_
      refine kiald F V 1 rfl hw.1 dX12_load_115 ?_
      have hw := hw.2
      exact ret _ _ _ _ _ _ _ _ _ _ _ _ _ _ _ _ rfl dX12_load_116 V hw
    · have hw := hw.2 c_87
      refine lv_iconst (v := 0) hx hb dX12_load_90 (by decide) ?_
      exact ret _ _ _ _ _ _ _ _ _ _ _ _ _ _ _ _ rfl dX12_load_91 V hw
  have B55 :  ∀ {H : Heap} {locs : List Loc} {ls : Array Slot} (v1 : Int32) (s1 : Int32) (s2 : Int32) (thrown : Int32) (z : Nat → Int32) (saves : Int32) (saved : Nat → Int32) (length : Int32) (many : Int32) (line : Nat → Int32) (aside : Nat → Int32) (isWord : Int32) (entries : Int32) (rdA : Nat → Int32) (V : VW g A s.heap H locs (gX12 g a_this a_this_z a_this_saved a_this_text a_this_line a_this_aside a_this_read a_this_fewest thrown z saves saved length text many line aside isWord entries rdA fewest h)) (hl : lv_has ls 2 [(0, .ref a_this), (1, .int v1)]) (hw : wX12_load_55 text P v1 s1 s2 thrown z saves saved length many line aside isWord entries rdA), W p l e (kR 5 112 0 0) s m ([.ref a_this] : List Value).toArray below meth c H locs 0 0 Q (F0 m 55 ls [.int s2, .int s1, .ref a_this]) := by
    intro  H locs ls v1 s1 s2 thrown z saves saved length many line aside isWord entries rdA V hl hw
    refine lv_iadd hx hb dX12_load_55 ?_
    refine lv_topi (fun entries_56 eentries_56 => ?_)
    have hw := hw entries_56 eentries_56
    refine kput F V 8 10 0 tyX12_ok nmX12 rfl rfl iX12_load_X12 fX12_load_128 (by decide) rfl rfl rfl rfl (Nat.le_of_ble_eq_true rfl) dX12_load_56 (fun H locs V => ?_)
    have V : VW g A s.heap H locs (gX12 g a_this a_this_z a_this_saved a_this_text a_this_line a_this_aside a_this_read a_this_fewest thrown z saves saved length text many line aside isWord entries_56 rdA fewest h) := V
    refine lv_aload_n hx hb dX12_load_59 rfl (lv_at hl 0 rfl) ?_
    refine lv_iload_n hx hb dX12_load_60 rfl (lv_at hl 1 rfl) ?_
    refine lv_if_ne (tgt := 68) hx hb dX12_load_61 (by decide) (fun c_61 => ?_) (fun c_61 => ?_)
    · have hw := hw.1 c_61
      refine lv_aload_n hx hb dX12_load_68 rfl (lv_at hl 0 rfl) ?_
      refine kVi2 (rest := [.ref a_this]) F hl V [0, 1, 2, 3, 4, 5, 6, 7] [] [0, 1, 2, 3, 4, 5, 6, 7] (fun z_69 aside_69 => (gX12 g a_this a_this_z a_this_saved a_this_text a_this_line a_this_aside a_this_read a_this_fewest thrown z_69 saves saved length text many line aside_69 isWord entries_56 rdA fewest h)) a_this 8 0 rfl rfl (kX12_canBring l g a_this a_this_z a_this_saved a_this_text a_this_line a_this_aside a_this_read a_this_fewest thrown z saves saved length text many line aside isWord entries_56 rdA fewest h _ hw) gX12_load_X12_canBring rfl 0 rfl hdX12_canBring rfl rfl (fun _ _ => rfl) rfl rfl rfl (by decide) ⟨Nat.le_of_ble_eq_true rfl, Nat.le_of_ble_eq_true rfl⟩ ⟨Nat.le_of_ble_eq_true rfl, Nat.le_of_ble_eq_true rfl⟩ (Nat.le_of_ble_eq_true rfl) rfl dX12_load_69 (fun r_69 z_69 aside_69 H locs hw V => ?_)
      refine lv_if_eq (tgt := 79) hx hb dX12_load_72 (by decide) (fun c_72 => ?_) (fun c_72 => ?_)
      · have hw := hw.1 c_72
        refine lv_iconst (v := 2) hx hb dX12_load_79 (by decide) ?_
        exact B80  2 thrown z_69 saves saved length many line aside_69 isWord entries_56 rdA V (lv_sub hl [0] rfl) hw
      · have hw := hw.2 c_72
        refine lv_iconst (v := 0) hx hb dX12_load_75 (by decide) ?_
        refine lv_goto (tgt := 80) hx hb dX12_load_76 (by decide) ?_
        exact B80  0 thrown z_69 saves saved length many line aside_69 isWord entries_56 rdA V (lv_sub hl [0] rfl) hw
    · have hw := hw.2 c_61
      refine lv_iconst (v := 1) hx hb dX12_load_64 (by decide) ?_
      refine lv_goto (tgt := 80) hx hb dX12_load_65 (by decide) ?_
      exact B80  1 thrown z saves saved length many line aside isWord entries_56 rdA V (lv_sub hl [0] rfl) hw
  have B40 :  ∀ {H : Heap} {locs : List Loc} {ls : Array Slot} (s0 : Int32) (thrown : Int32) (z : Nat → Int32) (saves : Int32) (saved : Nat → Int32) (length : Int32) (many : Int32) (line : Nat → Int32) (aside : Nat → Int32) (isWord : Int32) (entries : Int32) (rdA : Nat → Int32) (V : VW g A s.heap H locs (gX12 g a_this a_this_z a_this_saved a_this_text a_this_line a_this_aside a_this_read a_this_fewest thrown z saves saved length text many line aside isWord entries rdA fewest h)) (hl : lv_has ls 2 [(0, .ref a_this)]) (hw : wX12_load_40 text P s0 thrown z saves saved length many line aside isWord entries rdA), W p l e (kR 5 112 0 0) s m ([.ref a_this] : List Value).toArray below meth c H locs 0 0 Q (F0 m 40 ls [.int s0]) := by
    intro  H locs ls s0 thrown z saves saved length many line aside isWord entries rdA V hl hw
    refine lv_istore_n (lv' := [(1, .int s0), (0, .ref a_this)]) hx hb dX12_load_40 rfl hl (by decide) rfl (fun ls hl => ?_)
    refine lv_aload_n hx hb dX12_load_41 rfl (lv_at hl 1 rfl) ?_
    refine lv_dup hx hb dX12_load_42 rfl ?_
    refine kget F V 8 10 0 rfl rfl iX12_load_X12 fX12_load_128 (by decide) rfl rfl dX12_load_43 ?_
    refine lv_iload_n hx hb dX12_load_46 rfl (lv_at hl 0 rfl) ?_
    refine lv_if_eq (tgt := 54) hx hb dX12_load_47 (by decide) (fun c_47 => ?_) (fun c_47 => ?_)
    · have hw := hw.1 c_47
      refine lv_iconst (v := 0) hx hb dX12_load_54 (by decide) ?_
      exact B55  s0 entries 0 thrown z saves saved length many line aside isWord entries rdA V (lv_sub hl [1, 0] rfl) hw
    · have hw := hw.2 c_47
      refine lv_iconst (v := 1) hx hb dX12_load_50 (by decide) ?_
      refine lv_goto (tgt := 55) hx hb dX12_load_51 (by decide) ?_
      exact B55  s0 entries 1 thrown z saves saved length many line aside isWord entries rdA V (lv_sub hl [1, 0] rfl) hw
  have B39 :  ∀ {H : Heap} {locs : List Loc} {ls : Array Slot} (thrown : Int32) (z : Nat → Int32) (saves : Int32) (saved : Nat → Int32) (length : Int32) (many : Int32) (line : Nat → Int32) (aside : Nat → Int32) (isWord : Int32) (entries : Int32) (rdA : Nat → Int32) (V : VW g A s.heap H locs (gX12 g a_this a_this_z a_this_saved a_this_text a_this_line a_this_aside a_this_read a_this_fewest thrown z saves saved length text many line aside isWord entries rdA fewest h)) (hl : lv_has ls 2 [(0, .ref a_this)]) (hw : wX12_load_39 text P thrown z saves saved length many line aside isWord entries rdA), W p l e (kR 5 112 0 0) s m ([.ref a_this] : List Value).toArray below meth c H locs 0 0 Q (F0 m 39 ls []) := by
    intro  H locs ls thrown z saves saved length many line aside isWord entries rdA V hl hw
    refine lv_iconst (v := 0) hx hb dX12_load_39 (by decide) ?_
    exact B40  0 thrown z saves saved length many line aside isWord entries rdA V hl hw
  refine lv_aload_n hx hb dX12_load_0 rfl (lv_at hl 0 rfl) ?_
  refine kVi3 (rest := []) F hl V [0, 1, 2, 3, 4, 5, 6, 7] [] [0, 1, 2, 3, 4, 5, 6, 7] (fun isWord_1 entries_1 rdA_1 => (gX12 g a_this a_this_z a_this_saved a_this_text a_this_line a_this_aside a_this_read a_this_fewest thrown z saves saved length text many line aside isWord_1 entries_1 rdA_1 fewest h)) a_this 8 0 rfl rfl (kX12_readText l g a_this a_this_z a_this_saved a_this_text a_this_line a_this_aside a_this_read a_this_fewest thrown z saves saved length text many line aside isWord entries rdA fewest h _ hw) gX12_load_X12_readText rfl 0 rfl hdX12_readText rfl rfl (fun _ _ _ => rfl) rfl rfl rfl (by decide) ⟨Nat.le_of_ble_eq_true rfl, Nat.le_of_ble_eq_true rfl⟩ ⟨Nat.le_of_ble_eq_true rfl, Nat.le_of_ble_eq_true rfl⟩ (Nat.le_of_ble_eq_true rfl) rfl dX12_load_1 (fun r_1 isWord_1 entries_1 rdA_1 H locs hw V => ?_)
  refine lv_aload_n hx hb dX12_load_4 rfl (lv_at hl 0 rfl) ?_
  refine kget F V 8 4 0 rfl rfl iX12_load_X12 fX12_load_121 (by decide) rfl rfl dX12_load_5 ?_
  refine lv_icmp_ne (tgt := 39) hx hb dX12_load_8 (by decide) (fun c_8 => ?_) (fun c_8 => ?_)
  · have hw := hw.1 c_8
    exact B39  thrown z saves saved length many line aside isWord_1 entries_1 rdA_1 V hl hw
  · have hw := hw.2 c_8
    refine lv_aload_n hx hb dX12_load_11 rfl (lv_at hl 0 rfl) ?_
    refine kget F V 8 9 0 rfl rfl iX12_load_X12 fX12_load_124 (by decide) rfl rfl dX12_load_12 ?_
    refine lv_if_eq (tgt := 39) hx hb dX12_load_15 (by decide) (fun c_15 => ?_) (fun c_15 => ?_)
    · have hw := hw.1 c_15
      exact B39  thrown z saves saved length many line aside isWord_1 entries_1 rdA_1 V hl hw
    · have hw := hw.2 c_15
      refine lv_aload_n hx hb dX12_load_18 rfl (lv_at hl 0 rfl) ?_
      refine kget F V 8 11 0 rfl rfl iX12_load_X12 fX12_load_25 (by decide) rfl rfl dX12_load_19 ?_
      refine lv_bipush (v := 14) hx hb dX12_load_22 (by decide) ?_
      refine lv_aload_n hx hb dX12_load_24 rfl (lv_at hl 0 rfl) ?_
      refine kget F V 8 10 0 rfl rfl iX12_load_X12 fX12_load_128 (by decide) rfl rfl dX12_load_25 ?_
      refine lv_imul hx hb dX12_load_28 ?_
      refine lv_iconst (v := 5) hx hb dX12_load_29 (by decide) ?_
      refine lv_iadd hx hb dX12_load_30 ?_
      refine kiald F V 6 rfl hw.1 dX12_load_31 ?_
      have hw := hw.2
      refine lv_if_le (tgt := 39) hx hb dX12_load_32 (by decide) (fun c_32 => ?_) (fun c_32 => ?_)
      · have hw := hw.1 c_32
        exact B39  thrown z saves saved length many line aside isWord_1 entries_1 rdA_1 V hl hw
      · have hw := hw.2 c_32
        refine lv_iconst (v := 1) hx hb dX12_load_35 (by decide) ?_
        refine lv_goto (tgt := 40) hx hb dX12_load_36 (by decide) ?_
        exact B40  1 thrown z saves saved length many line aside isWord_1 entries_1 rdA_1 V hl hw
theorem hdX12_itemOf : yX12_itemOf.cls = RX12 ∧ yX12_itemOf.cls ≠ "java/lang/invoke/MethodHandle" ∧ yX12_itemOf.cls ≠ "java/lang/invoke/VarHandle" ∧ (parseMethodDescriptor yX12_itemOf.desc).map (fun d => d.parameters.length) = some 1 := by decide +kernel
def wX12_itemOf_2 (z : Nat → Int32) (p1 : Int32) (P : Int32 → Prop) : Nat → Int32 → Prop
  | 0, _ => False
  | n + 1, v2 => wX12_strokesAhead z (v2 + 1) (fun r_6 => (p1 < r_6 → P v2) ∧ (¬ (p1 < r_6) → (wX12_itemOf_2 z p1 P n) (v2 + 1)))
def wX12_itemOf (z : Nat → Int32) (p1 : Int32) (P : Int32 → Prop) : Prop := ∃ n_2, wX12_itemOf_2 z p1 P n_2 0
set_option maxHeartbeats 4000000 in
set_option maxRecDepth 100000 in
theorem kX12_itemOf (l : Launch) (g : kT) (a_this : Nat) (a_this_z : Nat) (a_this_saved : Nat) (a_this_text : Nat) (a_this_line : Nat) (a_this_aside : Nat) (a_this_read : Nat) (a_this_fewest : Nat) (thrown : Int32) (z : Nat → Int32) (saves : Int32) (saved : Nat → Int32) (length : Int32) (text : Nat → Int32) (many : Int32) (line : Nat → Int32) (aside : Nat → Int32) (isWord : Int32) (entries : Int32) (rdA : Nat → Int32) (fewest : Nat → Int32) (h : Int64) (p1 : Int32) (P : Int32 → Prop) (hw : wX12_itemOf z p1 P) : Ki0 l g yX12_itemOf wsX12_itemOf 2 43 0 0 [.ref a_this, .int p1] (gX12 g a_this a_this_z a_this_saved a_this_text a_this_line a_this_aside a_this_read a_this_fewest thrown z saves saved length text many line aside isWord entries rdA fewest h) P (gX12 g a_this a_this_z a_this_saved a_this_text a_this_line a_this_aside a_this_read a_this_fewest thrown z saves saved length text many line aside isWord entries rdA fewest h) := by
  refine Ki0.mk (cc := cX12_itemOf) (nL := 3) (ty := .int) (by decide +kernel) rfl (Nat.le_of_ble_eq_true rfl) ?_
  intro p e s m below meth c A Q ls F hl V ret
  have hx := F.x
  have hb := F.b
  have hl : lv_has ls 3 [(0, .ref a_this), (1, .int p1)] := hl
  have B2 :  ∀ (n : Nat), ∀ {H : Heap} {locs : List Loc} {ls : Array Slot} (v2 : Int32) (V : VW g A s.heap H locs (gX12 g a_this a_this_z a_this_saved a_this_text a_this_line a_this_aside a_this_read a_this_fewest thrown z saves saved length text many line aside isWord entries rdA fewest h)) (hl : lv_has ls 3 [(0, .ref a_this), (1, .int p1), (2, .int v2)]) (hw : wX12_itemOf_2 z p1 P n v2), W p l e (kR 2 43 0 0) s m ([.ref a_this, .int p1] : List Value).toArray below meth c H locs 0 0 Q (F0 m 2 ls []) := by
    intro n
    induction n with
    | zero => intro _ _ _ _ V hl hw; exact hw.elim
    | succ n ih =>
      intro H locs ls v2 V hl hw
      refine lv_aload_n hx hb dX12_itemOf_2 rfl (lv_at hl 0 rfl) ?_
      refine lv_iload_n hx hb dX12_itemOf_3 rfl (lv_at hl 2 rfl) ?_
      refine lv_iconst (v := 1) hx hb dX12_itemOf_4 (by decide) ?_
      refine lv_iadd hx hb dX12_itemOf_5 ?_
      refine kVi0 (rest := []) F hl V [0, 1, 2, 3, 4, 5, 6, 7] [] [0, 1, 2, 3, 4, 5, 6, 7] (gX12 g a_this a_this_z a_this_saved a_this_text a_this_line a_this_aside a_this_read a_this_fewest thrown z saves saved length text many line aside isWord entries rdA fewest h) a_this 8 0 rfl rfl (kX12_strokesAhead l g a_this a_this_z a_this_saved a_this_text a_this_line a_this_aside a_this_read a_this_fewest thrown z saves saved length text many line aside isWord entries rdA fewest h (v2 + 1) _ hw) gX12_itemOf_X12_strokesAhead rfl 1 rfl hdX12_strokesAhead rfl rfl (fun _ => rfl) rfl rfl rfl (by decide) ⟨Nat.le_of_ble_eq_true rfl, Nat.le_of_ble_eq_true rfl⟩ ⟨Nat.le_of_ble_eq_true rfl, Nat.le_of_ble_eq_true rfl⟩ (Nat.le_of_ble_eq_true rfl) rfl dX12_itemOf_6 (fun r_6 H locs hw V => ?_)
      refine lv_iload_n hx hb dX12_itemOf_9 rfl (lv_at hl 1 rfl) ?_
      refine lv_icmp_gt (tgt := 19) hx hb dX12_itemOf_10 (by decide) (fun c_10 => ?_) (fun c_10 => ?_)
      · have hw := hw.1 c_10
        refine lv_iload_n hx hb dX12_itemOf_19 rfl (lv_at hl 2 rfl) ?_
        exact ret _ _ _ _ _ rfl dX12_itemOf_20 V hw
      · have hw := hw.2 c_10
        refine lv_iinc (v := v2 + 1) (lv' := [(2, .int (v2 + 1)), (0, .ref a_this), (1, .int p1)]) hx hb dX12_itemOf_13 hl (k := 2) rfl rfl (by decide) rfl (fun ls hl => ?_)
        refine lv_goto (tgt := 2) hx hb dX12_itemOf_16 (by decide) ?_
        exact ih (v2 + 1) V (lv_sub hl [1, 2, 0] rfl) hw
  refine lv_iconst (v := 0) hx hb dX12_itemOf_0 (by decide) ?_
  refine lv_istore_n (lv' := [(2, .int 0), (0, .ref a_this), (1, .int p1)]) hx hb dX12_itemOf_1 rfl hl (by decide) rfl (fun ls hl => ?_)
  obtain ⟨n_2, hw⟩ := hw
  exact B2  n_2 0 V (lv_sub hl [1, 2, 0] rfl) hw
theorem hdX12_strokeNow : yX12_strokeNow.cls = RX12 ∧ yX12_strokeNow.cls ≠ "java/lang/invoke/MethodHandle" ∧ yX12_strokeNow.cls ≠ "java/lang/invoke/VarHandle" ∧ (parseMethodDescriptor yX12_strokeNow.desc).map (fun d => d.parameters.length) = some 2 := by decide +kernel
theorem fX12_strokeNow_7 : Cond.fieldLink RX12 7 RX12 "z" "[I" ∈ wsX12_strokeNow := by decide +kernel
theorem iX12_strokeNow_X12 : ∀ w ∈ u_ws RX12 TX12 14, w ∈ wsX12_strokeNow := by decide +kernel
def wX12_strokeNow (z : Nat → Int32) (p1 : Int32) (p2 : Int32) (P : Int32 → Prop) : Prop := vp_in (338 + p1) 1317 ∧ ∀ v3_10 : Int32, v3_10 = (z (338 + p1).toNatClampNeg) → (¬ p2 = 0 → (¬ p2 = 1 → wX12_itemOf z p1 (fun r_33 => P r_33)) ∧ (p2 = 1 → wX12_keysOf v3_10 (fun r_25 => P r_25))) ∧ (p2 = 0 → P v3_10)
set_option maxHeartbeats 4000000 in
set_option maxRecDepth 100000 in
theorem kX12_strokeNow (l : Launch) (g : kT) (a_this : Nat) (a_this_z : Nat) (a_this_saved : Nat) (a_this_text : Nat) (a_this_line : Nat) (a_this_aside : Nat) (a_this_read : Nat) (a_this_fewest : Nat) (thrown : Int32) (z : Nat → Int32) (saves : Int32) (saved : Nat → Int32) (length : Int32) (text : Nat → Int32) (many : Int32) (line : Nat → Int32) (aside : Nat → Int32) (isWord : Int32) (entries : Int32) (rdA : Nat → Int32) (fewest : Nat → Int32) (h : Int64) (p1 : Int32) (p2 : Int32) (P : Int32 → Prop) (hw : wX12_strokeNow z p1 p2 P) : Ki0 l g yX12_strokeNow wsX12_strokeNow 3 65 0 0 [.ref a_this, .int p1, .int p2] (gX12 g a_this a_this_z a_this_saved a_this_text a_this_line a_this_aside a_this_read a_this_fewest thrown z saves saved length text many line aside isWord entries rdA fewest h) P (gX12 g a_this a_this_z a_this_saved a_this_text a_this_line a_this_aside a_this_read a_this_fewest thrown z saves saved length text many line aside isWord entries rdA fewest h) := by
  refine Ki0.mk (cc := cX12_strokeNow) (nL := 4) (ty := .int) (by decide +kernel) rfl (Nat.le_of_ble_eq_true rfl) ?_
  intro p e s m below meth c A Q ls F hl V ret
  have hx := F.x
  have hb := F.b
  have hl : lv_has ls 4 [(0, .ref a_this), (1, .int p1), (2, .int p2)] := hl
  refine lv_aload_n hx hb dX12_strokeNow_0 rfl (lv_at hl 0 rfl) ?_
  refine kget F V 8 1 0 rfl rfl iX12_strokeNow_X12 fX12_strokeNow_7 (by decide) rfl rfl dX12_strokeNow_1 ?_
  refine lv_sipush (v := 338) hx hb dX12_strokeNow_4 (by decide) ?_
  refine lv_iload_n hx hb dX12_strokeNow_7 rfl (lv_at hl 1 rfl) ?_
  refine lv_iadd hx hb dX12_strokeNow_8 ?_
  refine kiald F V 1 rfl hw.1 dX12_strokeNow_9 ?_
  have hw := hw.2
  refine lv_topi (fun v3_10 ev3_10 => ?_)
  have hw := hw v3_10 ev3_10
  refine lv_istore_n (lv' := [(3, .int v3_10), (0, .ref a_this), (1, .int p1), (2, .int p2)]) hx hb dX12_strokeNow_10 rfl hl (by decide) rfl (fun ls hl => ?_)
  refine lv_iload_n hx hb dX12_strokeNow_11 rfl (lv_at hl 3 rfl) ?_
  refine lv_if_ne (tgt := 19) hx hb dX12_strokeNow_12 (by decide) (fun c_12 => ?_) (fun c_12 => ?_)
  · have hw := hw.1 c_12
    refine lv_iload_n hx hb dX12_strokeNow_19 rfl (lv_at hl 3 rfl) ?_
    refine lv_iconst (v := 1) hx hb dX12_strokeNow_20 (by decide) ?_
    refine lv_icmp_ne (tgt := 31) hx hb dX12_strokeNow_21 (by decide) (fun c_21 => ?_) (fun c_21 => ?_)
    · have hw := hw.1 c_21
      refine lv_aload_n hx hb dX12_strokeNow_31 rfl (lv_at hl 1 rfl) ?_
      refine lv_iload_n hx hb dX12_strokeNow_32 rfl (lv_at hl 2 rfl) ?_
      refine kVi0 (rest := []) F hl V [0, 1, 2, 3, 4, 5, 6, 7] [] [0, 1, 2, 3, 4, 5, 6, 7] (gX12 g a_this a_this_z a_this_saved a_this_text a_this_line a_this_aside a_this_read a_this_fewest thrown z saves saved length text many line aside isWord entries rdA fewest h) a_this 8 0 rfl rfl (kX12_itemOf l g a_this a_this_z a_this_saved a_this_text a_this_line a_this_aside a_this_read a_this_fewest thrown z saves saved length text many line aside isWord entries rdA fewest h p1 _ hw) gX12_strokeNow_X12_itemOf rfl 1 rfl hdX12_itemOf rfl rfl (fun _ => rfl) rfl rfl rfl (by decide) ⟨Nat.le_of_ble_eq_true rfl, Nat.le_of_ble_eq_true rfl⟩ ⟨Nat.le_of_ble_eq_true rfl, Nat.le_of_ble_eq_true rfl⟩ (Nat.le_of_ble_eq_true rfl) rfl dX12_strokeNow_33 (fun r_33 H locs hw V => ?_)
      exact ret _ _ _ _ _ rfl dX12_strokeNow_36 V hw
    · have hw := hw.2 c_21
      refine lv_iload_n hx hb dX12_strokeNow_24 rfl (lv_at hl 0 rfl) ?_
      refine kSi0n (rest := []) F hl V (kX12_keysOf l g v3_10 _ hw) gX12_strokeNow_X12_keysOf rfl 1 rfl hdX12_keysOf ⟨Nat.le_of_ble_eq_true rfl, Nat.le_of_ble_eq_true rfl⟩ ⟨Nat.le_of_ble_eq_true rfl, Nat.le_of_ble_eq_true rfl⟩ (Nat.le_of_ble_eq_true rfl) rfl dX12_strokeNow_25 (fun r_25 H locs hw V => ?_)
      refine lv_goto (tgt := 36) hx hb dX12_strokeNow_28 (by decide) ?_
      exact ret _ _ _ _ _ rfl dX12_strokeNow_36 V hw
  · have hw := hw.2 c_12
    refine lv_iload_n hx hb dX12_strokeNow_15 rfl (lv_at hl 0 rfl) ?_
    refine lv_goto (tgt := 36) hx hb dX12_strokeNow_16 (by decide) ?_
    exact ret _ _ _ _ _ rfl dX12_strokeNow_36 V hw
theorem hdX12_strokeAt : yX12_strokeAt.cls = RX12 ∧ yX12_strokeAt.cls ≠ "java/lang/invoke/MethodHandle" ∧ yX12_strokeAt.cls ≠ "java/lang/invoke/VarHandle" ∧ (parseMethodDescriptor yX12_strokeAt.desc).map (fun d => d.parameters.length) = some 2 := by decide +kernel
theorem fX12_strokeAt_7 : Cond.fieldLink RX12 7 RX12 "z" "[I" ∈ wsX12_strokeAt := by decide +kernel
theorem iX12_strokeAt_X12 : ∀ w ∈ u_ws RX12 TX12 14, w ∈ wsX12_strokeAt := by decide +kernel
theorem fX12_strokeAt_31 : Cond.fieldLink RX12 31 RX12 "thrown" "I" ∈ wsX12_strokeAt := by decide +kernel
def wX12_strokeAt_37 (z : Nat → Int32) (p1 : Int32) (p2 : Int32) (P : Int32 → Int32 → Prop) (s1 : Int32) (thrown : Int32) : Prop := (s1 ≤ 0 → wX12_strokeNow z p1 p2 (fun r_54 => P r_54 s1)) ∧ (¬ (s1 ≤ 0) → P 0 s1)
def wX12_strokeAt (z : Nat → Int32) (p1 : Int32) (p2 : Int32) (P : Int32 → Int32 → Prop) (thrown : Int32) : Prop := vp_in 337 1317 ∧ wX12_within p1 0 ((z (337 : Int32).toNatClampNeg) - 1) (fun r_13 => (¬ r_13 = 0 → wX12_within p2 0 2 (fun r_26 => (r_26 = 0 → wX12_strokeAt_37 z p1 p2 P 2 thrown) ∧ (¬ (r_26 = 0) → wX12_strokeAt_37 z p1 p2 P 0 thrown))) ∧ (r_13 = 0 → wX12_strokeAt_37 z p1 p2 P 1 thrown))
set_option maxHeartbeats 4000000 in
set_option maxRecDepth 100000 in
theorem kX12_strokeAt (l : Launch) (g : kT) (a_this : Nat) (a_this_z : Nat) (a_this_saved : Nat) (a_this_text : Nat) (a_this_line : Nat) (a_this_aside : Nat) (a_this_read : Nat) (a_this_fewest : Nat) (thrown : Int32) (z : Nat → Int32) (saves : Int32) (saved : Nat → Int32) (length : Int32) (text : Nat → Int32) (many : Int32) (line : Nat → Int32) (aside : Nat → Int32) (isWord : Int32) (entries : Int32) (rdA : Nat → Int32) (fewest : Nat → Int32) (h : Int64) (p1 : Int32) (p2 : Int32) (P : Int32 → Int32 → Prop) (hw : wX12_strokeAt z p1 p2 P thrown) : Ki1 l g yX12_strokeAt wsX12_strokeAt 4 88 0 0 [.ref a_this, .int p1, .int p2] (gX12 g a_this a_this_z a_this_saved a_this_text a_this_line a_this_aside a_this_read a_this_fewest thrown z saves saved length text many line aside isWord entries rdA fewest h) P (fun thrown => (gX12 g a_this a_this_z a_this_saved a_this_text a_this_line a_this_aside a_this_read a_this_fewest thrown z saves saved length text many line aside isWord entries rdA fewest h)) := by
  refine Ki1.mk (cc := cX12_strokeAt) (nL := 3) (ty := .int) (by decide +kernel) rfl (Nat.le_of_ble_eq_true rfl) ?_
  intro p e s m below meth c A Q ls F hl V ret
  have hx := F.x
  have hb := F.b
  have hl : lv_has ls 3 [(0, .ref a_this), (1, .int p1), (2, .int p2)] := hl
  have B37 :  ∀ {H : Heap} {locs : List Loc} {ls : Array Slot} (s1 : Int32) (thrown : Int32) (V : VW g A s.heap H locs (gX12 g a_this a_this_z a_this_saved a_this_text a_this_line a_this_aside a_this_read a_this_fewest thrown z saves saved length text many line aside isWord entries rdA fewest h)) (hl : lv_has ls 3 [(0, .ref a_this), (1, .int p1), (2, .int p2)]) (hw : wX12_strokeAt_37 z p1 p2 P s1 thrown), W p l e (kR 4 88 0 0) s m ([.ref a_this, .int p1, .int p2] : List Value).toArray below meth c H locs 0 0 Q (F0 m 37 ls [.int s1, .ref a_this]) := by
    intro  H locs ls s1 thrown V hl hw
    refine kput F V 8 0 0 tyX12_ok nmX12 rfl rfl iX12_strokeAt_X12 fX12_strokeAt_31 (by decide) rfl rfl rfl rfl (Nat.le_of_ble_eq_true rfl) dX12_strokeAt_37 (fun H locs V => ?_)
    have V : VW g A s.heap H locs (gX12 g a_this a_this_z a_this_saved a_this_text a_this_line a_this_aside a_this_read a_this_fewest s1 z saves saved length text many line aside isWord entries rdA fewest h) := V
    refine lv_aload_n hx hb dX12_strokeAt_40 rfl (lv_at hl 0 rfl) ?_
    refine kget F V 8 0 0 rfl rfl iX12_strokeAt_X12 fX12_strokeAt_31 (by decide) rfl rfl dX12_strokeAt_41 ?_
    refine lv_if_le (tgt := 51) hx hb dX12_strokeAt_44 (by decide) (fun c_44 => ?_) (fun c_44 => ?_)
    · have hw := hw.1 c_44
      refine lv_aload_n hx hb dX12_strokeAt_51 rfl (lv_at hl 0 rfl) ?_
      refine lv_iload_n hx hb dX12_strokeAt_52 rfl (lv_at hl 1 rfl) ?_
      refine lv_iload_n hx hb dX12_strokeAt_53 rfl (lv_at hl 2 rfl) ?_
      refine kVi0 (rest := []) F hl V [0, 1, 2, 3, 4, 5, 6, 7] [] [0, 1, 2, 3, 4, 5, 6, 7] (gX12 g a_this a_this_z a_this_saved a_this_text a_this_line a_this_aside a_this_read a_this_fewest s1 z saves saved length text many line aside isWord entries rdA fewest h) a_this 8 0 rfl rfl (kX12_strokeNow l g a_this a_this_z a_this_saved a_this_text a_this_line a_this_aside a_this_read a_this_fewest s1 z saves saved length text many line aside isWord entries rdA fewest h p1 p2 _ hw) gX12_strokeAt_X12_strokeNow rfl 2 rfl hdX12_strokeNow rfl rfl (fun _ => rfl) rfl rfl rfl (by decide) ⟨Nat.le_of_ble_eq_true rfl, Nat.le_of_ble_eq_true rfl⟩ ⟨Nat.le_of_ble_eq_true rfl, Nat.le_of_ble_eq_true rfl⟩ (Nat.le_of_ble_eq_true rfl) rfl dX12_strokeAt_54 (fun r_54 H locs hw V => ?_)
      exact ret _ _ _ _ _ _ rfl dX12_strokeAt_57 V hw
    · have hw := hw.2 c_44
      refine lv_iconst (v := 0) hx hb dX12_strokeAt_47 (by decide) ?_
      refine lv_goto (tgt := 57) hx hb dX12_strokeAt_48 (by decide) ?_
      exact ret _ _ _ _ _ _ rfl dX12_strokeAt_57 V hw
  refine lv_aload_n hx hb dX12_strokeAt_0 rfl (lv_at hl 0 rfl) ?_
  refine lv_iload_n hx hb dX12_strokeAt_1 rfl (lv_at hl 1 rfl) ?_
  refine lv_iconst (v := 0) hx hb dX12_strokeAt_2 (by decide) ?_
  refine lv_aload_n hx hb dX12_strokeAt_3 rfl (lv_at hl 0 rfl) ?_
  refine kget F V 8 1 0 rfl rfl iX12_strokeAt_X12 fX12_strokeAt_7 (by decide) rfl rfl dX12_strokeAt_4 ?_
  refine lv_sipush (v := 337) hx hb dX12_strokeAt_7 (by decide) ?_
  refine kiald F V 1 rfl hw.1 dX12_strokeAt_10 ?_
  have hw := hw.2
  refine lv_iconst (v := 1) hx hb dX12_strokeAt_11 (by decide) ?_
  refine lv_isub hx hb dX12_strokeAt_12 ?_
  refine kSi0n (rest := [.ref a_this]) F hl V (kX12_within l g p1 0 ((z (337 : Int32).toNatClampNeg) - 1) _ hw) gX12_strokeAt_X12_within rfl 3 rfl hdX12_within ⟨Nat.le_of_ble_eq_true rfl, Nat.le_of_ble_eq_true rfl⟩ ⟨Nat.le_of_ble_eq_true rfl, Nat.le_of_ble_eq_true rfl⟩ (Nat.le_of_ble_eq_true rfl) rfl dX12_strokeAt_13 (fun r_13 H locs hw V => ?_)
  refine lv_if_ne (tgt := 23) hx hb dX12_strokeAt_16 (by decide) (fun c_16 => ?_) (fun c_16 => ?_)
  · have hw := hw.1 c_16
    refine lv_iload_n hx hb dX12_strokeAt_23 rfl (lv_at hl 2 rfl) ?_
    refine lv_iconst (v := 0) hx hb dX12_strokeAt_24 (by decide) ?_
    refine lv_iconst (v := 2) hx hb dX12_strokeAt_25 (by decide) ?_
    refine kSi0n (rest := [.ref a_this]) F hl V (kX12_within l g p2 0 2 _ hw) gX12_strokeAt_X12_within rfl 3 rfl hdX12_within ⟨Nat.le_of_ble_eq_true rfl, Nat.le_of_ble_eq_true rfl⟩ ⟨Nat.le_of_ble_eq_true rfl, Nat.le_of_ble_eq_true rfl⟩ (Nat.le_of_ble_eq_true rfl) rfl dX12_strokeAt_26 (fun r_26 H locs hw V => ?_)
    refine lv_if_eq (tgt := 36) hx hb dX12_strokeAt_29 (by decide) (fun c_29 => ?_) (fun c_29 => ?_)
    · have hw := hw.1 c_29
      refine lv_iconst (v := 2) hx hb dX12_strokeAt_36 (by decide) ?_
      exact B37  2 thrown V hl hw
    · have hw := hw.2 c_29
      refine lv_iconst (v := 0) hx hb dX12_strokeAt_32 (by decide) ?_
      refine lv_goto (tgt := 37) hx hb dX12_strokeAt_33 (by decide) ?_
      exact B37  0 thrown V hl hw
  · have hw := hw.2 c_16
    refine lv_iconst (v := 1) hx hb dX12_strokeAt_19 (by decide) ?_
    refine lv_goto (tgt := 37) hx hb dX12_strokeAt_20 (by decide) ?_
    exact B37  1 thrown V hl hw
theorem hdX12_itemNow : yX12_itemNow.cls = RX12 ∧ yX12_itemNow.cls ≠ "java/lang/invoke/MethodHandle" ∧ yX12_itemNow.cls ≠ "java/lang/invoke/VarHandle" ∧ (parseMethodDescriptor yX12_itemNow.desc).map (fun d => d.parameters.length) = some 2 := by decide +kernel
theorem fX12_itemNow_7 : Cond.fieldLink RX12 7 RX12 "z" "[I" ∈ wsX12_itemNow := by decide +kernel
theorem iX12_itemNow_X12 : ∀ w ∈ u_ws RX12 TX12 14, w ∈ wsX12_itemNow := by decide +kernel
def wX12_itemNow (z : Nat → Int32) (p1 : Int32) (p2 : Int32) (P : Int32 → Prop) : Prop := (p2 = 0 → wX12_strokesAhead z p1 (fun r_38 => P r_38)) ∧ (p2 = 1 → wX12_itemAt p1 (fun r_47 => vp_in r_47 1317 ∧ P (z r_47.toNatClampNeg))) ∧ (p2 = 2 → wX12_itemAt p1 (fun r_57 => vp_in (r_57 + 1) 1317 ∧ P (z (r_57 + 1).toNatClampNeg))) ∧ (p2 = 3 → vp_in 1315 1317 ∧ ((z (1315 : Int32).toNatClampNeg) ≤ p1 → P 0) ∧ (¬ ((z (1315 : Int32).toNatClampNeg) ≤ p1) → P 1)) ∧ (p2 = 4 → wX12_itemAt p1 (fun r_87 => vp_in (r_87 + 2) 1317 ∧ P (z (r_87 + 2).toNatClampNeg))) ∧ (¬ p2 = 0 → ¬ p2 = 1 → ¬ p2 = 2 → ¬ p2 = 3 → ¬ p2 = 4 → wX12_itemAt p1 (fun r_99 => vp_in (((r_99 + 3) + p2) - 5) 1317 ∧ P (z (((r_99 + 3) + p2) - 5).toNatClampNeg)))
set_option maxHeartbeats 4000000 in
set_option maxRecDepth 100000 in
theorem kX12_itemNow (l : Launch) (g : kT) (a_this : Nat) (a_this_z : Nat) (a_this_saved : Nat) (a_this_text : Nat) (a_this_line : Nat) (a_this_aside : Nat) (a_this_read : Nat) (a_this_fewest : Nat) (thrown : Int32) (z : Nat → Int32) (saves : Int32) (saved : Nat → Int32) (length : Int32) (text : Nat → Int32) (many : Int32) (line : Nat → Int32) (aside : Nat → Int32) (isWord : Int32) (entries : Int32) (rdA : Nat → Int32) (fewest : Nat → Int32) (h : Int64) (p1 : Int32) (p2 : Int32) (P : Int32 → Prop) (hw : wX12_itemNow z p1 p2 P) : Ki0 l g yX12_itemNow wsX12_itemNow 2 43 0 0 [.ref a_this, .int p1, .int p2] (gX12 g a_this a_this_z a_this_saved a_this_text a_this_line a_this_aside a_this_read a_this_fewest thrown z saves saved length text many line aside isWord entries rdA fewest h) P (gX12 g a_this a_this_z a_this_saved a_this_text a_this_line a_this_aside a_this_read a_this_fewest thrown z saves saved length text many line aside isWord entries rdA fewest h) := by
  refine Ki0.mk (cc := cX12_itemNow) (nL := 3) (ty := .int) (by decide +kernel) rfl (Nat.le_of_ble_eq_true rfl) ?_
  intro p e s m below meth c A Q ls F hl V ret
  have hx := F.x
  have hb := F.b
  have hl : lv_has ls 3 [(0, .ref a_this), (1, .int p1), (2, .int p2)] := hl
  refine lv_iload_n hx hb dX12_itemNow_0 rfl (lv_at hl 2 rfl) ?_
  by_cases c_1_0 : p2 = 0
  · have hw := hw.1 c_1_0
    refine lv_tableIn (tgt := 36) hx hb dX12_itemNow_1 (by rw [c_1_0]; decide) (by rw [c_1_0]; decide) (by rw [c_1_0]; rfl) (by decide) ?_
    refine lv_aload_n hx hb dX12_itemNow_36 rfl (lv_at hl 0 rfl) ?_
    refine lv_iload_n hx hb dX12_itemNow_37 rfl (lv_at hl 1 rfl) ?_
    refine kVi0 (rest := []) F hl V [0, 1, 2, 3, 4, 5, 6, 7] [] [0, 1, 2, 3, 4, 5, 6, 7] (gX12 g a_this a_this_z a_this_saved a_this_text a_this_line a_this_aside a_this_read a_this_fewest thrown z saves saved length text many line aside isWord entries rdA fewest h) a_this 8 0 rfl rfl (kX12_strokesAhead l g a_this a_this_z a_this_saved a_this_text a_this_line a_this_aside a_this_read a_this_fewest thrown z saves saved length text many line aside isWord entries rdA fewest h p1 _ hw) gX12_itemNow_X12_strokesAhead rfl 1 rfl hdX12_strokesAhead rfl rfl (fun _ => rfl) rfl rfl rfl (by decide) ⟨Nat.le_of_ble_eq_true rfl, Nat.le_of_ble_eq_true rfl⟩ ⟨Nat.le_of_ble_eq_true rfl, Nat.le_of_ble_eq_true rfl⟩ (Nat.le_of_ble_eq_true rfl) rfl dX12_itemNow_38 (fun r_38 H locs hw V => ?_)
    exact ret _ _ _ _ _ rfl dX12_itemNow_41 V hw
  by_cases c_1_1 : p2 = 1
  · have hw := hw.2.1 c_1_1
    refine lv_tableIn (tgt := 42) hx hb dX12_itemNow_1 (by rw [c_1_1]; decide) (by rw [c_1_1]; decide) (by rw [c_1_1]; rfl) (by decide) ?_
    refine lv_aload_n hx hb dX12_itemNow_42 rfl (lv_at hl 0 rfl) ?_
    refine kget F V 8 1 0 rfl rfl iX12_itemNow_X12 fX12_itemNow_7 (by decide) rfl rfl dX12_itemNow_43 ?_
    refine lv_iload_n hx hb dX12_itemNow_46 rfl (lv_at hl 1 rfl) ?_
    refine kSi0n (rest := [.ref a_this_z]) F hl V (kX12_itemAt l g p1 _ hw) gX12_itemNow_X12_itemAt rfl 1 rfl hdX12_itemAt ⟨Nat.le_of_ble_eq_true rfl, Nat.le_of_ble_eq_true rfl⟩ ⟨Nat.le_of_ble_eq_true rfl, Nat.le_of_ble_eq_true rfl⟩ (Nat.le_of_ble_eq_true rfl) rfl dX12_itemNow_47 (fun r_47 H locs hw V => ?_)
    refine kiald F V 1 rfl hw.1 dX12_itemNow_50 ?_
    have hw := hw.2
    exact ret _ _ _ _ _ rfl dX12_itemNow_51 V hw
  by_cases c_1_2 : p2 = 2
  · have hw := hw.2.2.1 c_1_2
    refine lv_tableIn (tgt := 52) hx hb dX12_itemNow_1 (by rw [c_1_2]; decide) (by rw [c_1_2]; decide) (by rw [c_1_2]; rfl) (by decide) ?_
    refine lv_aload_n hx hb dX12_itemNow_52 rfl (lv_at hl 0 rfl) ?_
    refine kget F V 8 1 0 rfl rfl iX12_itemNow_X12 fX12_itemNow_7 (by decide) rfl rfl dX12_itemNow_53 ?_
    refine lv_iload_n hx hb dX12_itemNow_56 rfl (lv_at hl 1 rfl) ?_
    refine kSi0n (rest := [.ref a_this_z]) F hl V (kX12_itemAt l g p1 _ hw) gX12_itemNow_X12_itemAt rfl 1 rfl hdX12_itemAt ⟨Nat.le_of_ble_eq_true rfl, Nat.le_of_ble_eq_true rfl⟩ ⟨Nat.le_of_ble_eq_true rfl, Nat.le_of_ble_eq_true rfl⟩ (Nat.le_of_ble_eq_true rfl) rfl dX12_itemNow_57 (fun r_57 H locs hw V => ?_)
    refine lv_iconst (v := 1) hx hb dX12_itemNow_60 (by decide) ?_
    refine lv_iadd hx hb dX12_itemNow_61 ?_
    refine kiald F V 1 rfl hw.1 dX12_itemNow_62 ?_
    have hw := hw.2
    exact ret _ _ _ _ _ rfl dX12_itemNow_63 V hw
  by_cases c_1_3 : p2 = 3
  · have hw := hw.2.2.2.1 c_1_3
    refine lv_tableIn (tgt := 64) hx hb dX12_itemNow_1 (by rw [c_1_3]; decide) (by rw [c_1_3]; decide) (by rw [c_1_3]; rfl) (by decide) ?_
    refine lv_iload_n hx hb dX12_itemNow_64 rfl (lv_at hl 1 rfl) ?_
    refine lv_aload_n hx hb dX12_itemNow_65 rfl (lv_at hl 0 rfl) ?_
    refine kget F V 8 1 0 rfl rfl iX12_itemNow_X12 fX12_itemNow_7 (by decide) rfl rfl dX12_itemNow_66 ?_
    refine lv_sipush (v := 1315) hx hb dX12_itemNow_69 (by decide) ?_
    refine kiald F V 1 rfl hw.1 dX12_itemNow_72 ?_
    have hw := hw.2
    refine lv_icmp_ge (tgt := 80) hx hb dX12_itemNow_73 (by decide) (fun c_73 => ?_) (fun c_73 => ?_)
    · have hw := hw.1 c_73
      refine lv_iconst (v := 0) hx hb dX12_itemNow_80 (by decide) ?_
      exact ret _ _ _ _ _ rfl dX12_itemNow_81 V hw
    · have hw := hw.2 c_73
      refine lv_iconst (v := 1) hx hb dX12_itemNow_76 (by decide) ?_
      refine lv_goto (tgt := 81) hx hb dX12_itemNow_77 (by decide) ?_
      exact ret _ _ _ _ _ rfl dX12_itemNow_81 V hw
  by_cases c_1_4 : p2 = 4
  · have hw := hw.2.2.2.2.1 c_1_4
    refine lv_tableIn (tgt := 82) hx hb dX12_itemNow_1 (by rw [c_1_4]; decide) (by rw [c_1_4]; decide) (by rw [c_1_4]; rfl) (by decide) ?_
    refine lv_aload_n hx hb dX12_itemNow_82 rfl (lv_at hl 0 rfl) ?_
    refine kget F V 8 1 0 rfl rfl iX12_itemNow_X12 fX12_itemNow_7 (by decide) rfl rfl dX12_itemNow_83 ?_
    refine lv_iload_n hx hb dX12_itemNow_86 rfl (lv_at hl 1 rfl) ?_
    refine kSi0n (rest := [.ref a_this_z]) F hl V (kX12_itemAt l g p1 _ hw) gX12_itemNow_X12_itemAt rfl 1 rfl hdX12_itemAt ⟨Nat.le_of_ble_eq_true rfl, Nat.le_of_ble_eq_true rfl⟩ ⟨Nat.le_of_ble_eq_true rfl, Nat.le_of_ble_eq_true rfl⟩ (Nat.le_of_ble_eq_true rfl) rfl dX12_itemNow_87 (fun r_87 H locs hw V => ?_)
    refine lv_iconst (v := 2) hx hb dX12_itemNow_90 (by decide) ?_
    refine lv_iadd hx hb dX12_itemNow_91 ?_
    refine kiald F V 1 rfl hw.1 dX12_itemNow_92 ?_
    have hw := hw.2
    exact ret _ _ _ _ _ rfl dX12_itemNow_93 V hw
  have hw := hw.2.2.2.2.2 c_1_0 c_1_1 c_1_2 c_1_3 c_1_4
  refine lv_tableOut (tgt := 94) hx hb dX12_itemNow_1 (by have i_0 : ¬ (p2).toInt = 0 := fun q => c_1_0 (Int32.toInt_inj.mp (by rw [q]; rfl)); have i_1 : ¬ (p2).toInt = 1 := fun q => c_1_1 (Int32.toInt_inj.mp (by rw [q]; rfl)); have i_2 : ¬ (p2).toInt = 2 := fun q => c_1_2 (Int32.toInt_inj.mp (by rw [q]; rfl)); have i_3 : ¬ (p2).toInt = 3 := fun q => c_1_3 (Int32.toInt_inj.mp (by rw [q]; rfl)); have i_4 : ¬ (p2).toInt = 4 := fun q => c_1_4 (Int32.toInt_inj.mp (by rw [q]; rfl)); omega) (by decide) ?_
  refine lv_aload_n hx hb dX12_itemNow_94 rfl (lv_at hl 0 rfl) ?_
  refine kget F V 8 1 0 rfl rfl iX12_itemNow_X12 fX12_itemNow_7 (by decide) rfl rfl dX12_itemNow_95 ?_
  refine lv_iload_n hx hb dX12_itemNow_98 rfl (lv_at hl 1 rfl) ?_
  refine kSi0n (rest := [.ref a_this_z]) F hl V (kX12_itemAt l g p1 _ hw) gX12_itemNow_X12_itemAt rfl 1 rfl hdX12_itemAt ⟨Nat.le_of_ble_eq_true rfl, Nat.le_of_ble_eq_true rfl⟩ ⟨Nat.le_of_ble_eq_true rfl, Nat.le_of_ble_eq_true rfl⟩ (Nat.le_of_ble_eq_true rfl) rfl dX12_itemNow_99 (fun r_99 H locs hw V => ?_)
  refine lv_iconst (v := 3) hx hb dX12_itemNow_102 (by decide) ?_
  refine lv_iadd hx hb dX12_itemNow_103 ?_
  refine lv_iload_n hx hb dX12_itemNow_104 rfl (lv_at hl 2 rfl) ?_
  refine lv_iadd hx hb dX12_itemNow_105 ?_
  refine lv_iconst (v := 5) hx hb dX12_itemNow_106 (by decide) ?_
  refine lv_isub hx hb dX12_itemNow_107 ?_
  refine kiald F V 1 rfl hw.1 dX12_itemNow_108 ?_
  have hw := hw.2
  exact ret _ _ _ _ _ rfl dX12_itemNow_109 V hw
theorem hdX12_item : yX12_item.cls = RX12 ∧ yX12_item.cls ≠ "java/lang/invoke/MethodHandle" ∧ yX12_item.cls ≠ "java/lang/invoke/VarHandle" ∧ (parseMethodDescriptor yX12_item.desc).map (fun d => d.parameters.length) = some 2 := by decide +kernel
theorem fX12_item_31 : Cond.fieldLink RX12 31 RX12 "thrown" "I" ∈ wsX12_item := by decide +kernel
theorem iX12_item_X12 : ∀ w ∈ u_ws RX12 TX12 14, w ∈ wsX12_item := by decide +kernel
theorem fX12_item_7 : Cond.fieldLink RX12 7 RX12 "z" "[I" ∈ wsX12_item := by decide +kernel
def wX12_item_42 (z : Nat → Int32) (p1 : Int32) (p2 : Int32) (P : Int32 → Int32 → Prop) (s1 : Int32) (thrown : Int32) : Prop := (s1 ≤ 0 → wX12_itemNow z p1 p2 (fun r_59 => P r_59 s1)) ∧ (¬ (s1 ≤ 0) → P 0 s1)
def wX12_item (z : Nat → Int32) (p1 : Int32) (p2 : Int32) (P : Int32 → Int32 → Prop) (thrown : Int32) : Prop := wX12_isItem z p1 (fun r_2 => (¬ r_2 = 0 → wX12_itemAt p1 (fun r_24 => vp_in (r_24 + 2) 1317 ∧ wX12_within p2 0 (4 + (z (r_24 + 2).toNatClampNeg)) (fun r_31 => (r_31 = 0 → wX12_item_42 z p1 p2 P 2 thrown) ∧ (¬ (r_31 = 0) → wX12_item_42 z p1 p2 P 0 thrown)))) ∧ (r_2 = 0 → P 0 1))
set_option maxHeartbeats 4000000 in
set_option maxRecDepth 100000 in
theorem kX12_item (l : Launch) (g : kT) (a_this : Nat) (a_this_z : Nat) (a_this_saved : Nat) (a_this_text : Nat) (a_this_line : Nat) (a_this_aside : Nat) (a_this_read : Nat) (a_this_fewest : Nat) (thrown : Int32) (z : Nat → Int32) (saves : Int32) (saved : Nat → Int32) (length : Int32) (text : Nat → Int32) (many : Int32) (line : Nat → Int32) (aside : Nat → Int32) (isWord : Int32) (entries : Int32) (rdA : Nat → Int32) (fewest : Nat → Int32) (h : Int64) (p1 : Int32) (p2 : Int32) (P : Int32 → Int32 → Prop) (hw : wX12_item z p1 p2 P thrown) : Ki1 l g yX12_item wsX12_item 3 65 0 0 [.ref a_this, .int p1, .int p2] (gX12 g a_this a_this_z a_this_saved a_this_text a_this_line a_this_aside a_this_read a_this_fewest thrown z saves saved length text many line aside isWord entries rdA fewest h) P (fun thrown => (gX12 g a_this a_this_z a_this_saved a_this_text a_this_line a_this_aside a_this_read a_this_fewest thrown z saves saved length text many line aside isWord entries rdA fewest h)) := by
  refine Ki1.mk (cc := cX12_item) (nL := 3) (ty := .int) (by decide +kernel) rfl (Nat.le_of_ble_eq_true rfl) ?_
  intro p e s m below meth c A Q ls F hl V ret
  have hx := F.x
  have hb := F.b
  have hl : lv_has ls 3 [(0, .ref a_this), (1, .int p1), (2, .int p2)] := hl
  have B42 :  ∀ {H : Heap} {locs : List Loc} {ls : Array Slot} (s1 : Int32) (thrown : Int32) (V : VW g A s.heap H locs (gX12 g a_this a_this_z a_this_saved a_this_text a_this_line a_this_aside a_this_read a_this_fewest thrown z saves saved length text many line aside isWord entries rdA fewest h)) (hl : lv_has ls 3 [(0, .ref a_this), (1, .int p1), (2, .int p2)]) (hw : wX12_item_42 z p1 p2 P s1 thrown), W p l e (kR 3 65 0 0) s m ([.ref a_this, .int p1, .int p2] : List Value).toArray below meth c H locs 0 0 Q (F0 m 42 ls [.int s1, .ref a_this]) := by
    intro  H locs ls s1 thrown V hl hw
    refine kput F V 8 0 0 tyX12_ok nmX12 rfl rfl iX12_item_X12 fX12_item_31 (by decide) rfl rfl rfl rfl (Nat.le_of_ble_eq_true rfl) dX12_item_42 (fun H locs V => ?_)
    have V : VW g A s.heap H locs (gX12 g a_this a_this_z a_this_saved a_this_text a_this_line a_this_aside a_this_read a_this_fewest s1 z saves saved length text many line aside isWord entries rdA fewest h) := V
    refine lv_aload_n hx hb dX12_item_45 rfl (lv_at hl 0 rfl) ?_
    refine kget F V 8 0 0 rfl rfl iX12_item_X12 fX12_item_31 (by decide) rfl rfl dX12_item_46 ?_
    refine lv_if_le (tgt := 56) hx hb dX12_item_49 (by decide) (fun c_49 => ?_) (fun c_49 => ?_)
    · have hw := hw.1 c_49
      refine lv_aload_n hx hb dX12_item_56 rfl (lv_at hl 0 rfl) ?_
      refine lv_iload_n hx hb dX12_item_57 rfl (lv_at hl 1 rfl) ?_
      refine lv_iload_n hx hb dX12_item_58 rfl (lv_at hl 2 rfl) ?_
      refine kVi0 (rest := []) F hl V [0, 1, 2, 3, 4, 5, 6, 7] [] [0, 1, 2, 3, 4, 5, 6, 7] (gX12 g a_this a_this_z a_this_saved a_this_text a_this_line a_this_aside a_this_read a_this_fewest s1 z saves saved length text many line aside isWord entries rdA fewest h) a_this 8 0 rfl rfl (kX12_itemNow l g a_this a_this_z a_this_saved a_this_text a_this_line a_this_aside a_this_read a_this_fewest s1 z saves saved length text many line aside isWord entries rdA fewest h p1 p2 _ hw) gX12_item_X12_itemNow rfl 2 rfl hdX12_itemNow rfl rfl (fun _ => rfl) rfl rfl rfl (by decide) ⟨Nat.le_of_ble_eq_true rfl, Nat.le_of_ble_eq_true rfl⟩ ⟨Nat.le_of_ble_eq_true rfl, Nat.le_of_ble_eq_true rfl⟩ (Nat.le_of_ble_eq_true rfl) rfl dX12_item_59 (fun r_59 H locs hw V => ?_)
      exact ret _ _ _ _ _ _ rfl dX12_item_62 V hw
    · have hw := hw.2 c_49
      refine lv_iconst (v := 0) hx hb dX12_item_52 (by decide) ?_
      refine lv_goto (tgt := 62) hx hb dX12_item_53 (by decide) ?_
      exact ret _ _ _ _ _ _ rfl dX12_item_62 V hw
  refine lv_aload_n hx hb dX12_item_0 rfl (lv_at hl 0 rfl) ?_
  refine lv_iload_n hx hb dX12_item_1 rfl (lv_at hl 1 rfl) ?_
  refine kVi0 (rest := []) F hl V [0, 1, 2, 3, 4, 5, 6, 7] [] [0, 1, 2, 3, 4, 5, 6, 7] (gX12 g a_this a_this_z a_this_saved a_this_text a_this_line a_this_aside a_this_read a_this_fewest thrown z saves saved length text many line aside isWord entries rdA fewest h) a_this 8 0 rfl rfl (kX12_isItem l g a_this a_this_z a_this_saved a_this_text a_this_line a_this_aside a_this_read a_this_fewest thrown z saves saved length text many line aside isWord entries rdA fewest h p1 _ hw) gX12_item_X12_isItem rfl 1 rfl hdX12_isItem rfl rfl (fun _ => rfl) rfl rfl rfl (by decide) ⟨Nat.le_of_ble_eq_true rfl, Nat.le_of_ble_eq_true rfl⟩ ⟨Nat.le_of_ble_eq_true rfl, Nat.le_of_ble_eq_true rfl⟩ (Nat.le_of_ble_eq_true rfl) rfl dX12_item_2 (fun r_2 H locs hw V => ?_)
  refine lv_if_ne (tgt := 15) hx hb dX12_item_5 (by decide) (fun c_5 => ?_) (fun c_5 => ?_)
  · have hw := hw.1 c_5
    refine lv_aload_n hx hb dX12_item_15 rfl (lv_at hl 0 rfl) ?_
    refine lv_iload_n hx hb dX12_item_16 rfl (lv_at hl 2 rfl) ?_
    refine lv_iconst (v := 0) hx hb dX12_item_17 (by decide) ?_
    refine lv_iconst (v := 4) hx hb dX12_item_18 (by decide) ?_
    refine lv_aload_n hx hb dX12_item_19 rfl (lv_at hl 0 rfl) ?_
    refine kget F V 8 1 0 rfl rfl iX12_item_X12 fX12_item_7 (by decide) rfl rfl dX12_item_20 ?_
    refine lv_iload_n hx hb dX12_item_23 rfl (lv_at hl 1 rfl) ?_
    refine kSi0n (rest := [.ref a_this_z, .int 4, .int 0, .int p2, .ref a_this]) F hl V (kX12_itemAt l g p1 _ hw) gX12_item_X12_itemAt rfl 1 rfl hdX12_itemAt ⟨Nat.le_of_ble_eq_true rfl, Nat.le_of_ble_eq_true rfl⟩ ⟨Nat.le_of_ble_eq_true rfl, Nat.le_of_ble_eq_true rfl⟩ (Nat.le_of_ble_eq_true rfl) rfl dX12_item_24 (fun r_24 H locs hw V => ?_)
    refine lv_iconst (v := 2) hx hb dX12_item_27 (by decide) ?_
    refine lv_iadd hx hb dX12_item_28 ?_
    refine kiald F V 1 rfl hw.1 dX12_item_29 ?_
    have hw := hw.2
    refine lv_iadd hx hb dX12_item_30 ?_
    refine kSi0n (rest := [.ref a_this]) F hl V (kX12_within l g p2 0 (4 + (z (r_24 + 2).toNatClampNeg)) _ hw) gX12_item_X12_within rfl 3 rfl hdX12_within ⟨Nat.le_of_ble_eq_true rfl, Nat.le_of_ble_eq_true rfl⟩ ⟨Nat.le_of_ble_eq_true rfl, Nat.le_of_ble_eq_true rfl⟩ (Nat.le_of_ble_eq_true rfl) rfl dX12_item_31 (fun r_31 H locs hw V => ?_)
    refine lv_if_eq (tgt := 41) hx hb dX12_item_34 (by decide) (fun c_34 => ?_) (fun c_34 => ?_)
    · have hw := hw.1 c_34
      refine lv_iconst (v := 2) hx hb dX12_item_41 (by decide) ?_
      exact B42  2 thrown V hl hw
    · have hw := hw.2 c_34
      refine lv_iconst (v := 0) hx hb dX12_item_37 (by decide) ?_
      refine lv_goto (tgt := 42) hx hb dX12_item_38 (by decide) ?_
      exact B42  0 thrown V hl hw
  · have hw := hw.2 c_5
    refine lv_aload_n hx hb dX12_item_8 rfl (lv_at hl 0 rfl) ?_
    refine lv_iconst (v := 1) hx hb dX12_item_9 (by decide) ?_
    refine kput F V 8 0 0 tyX12_ok nmX12 rfl rfl iX12_item_X12 fX12_item_31 (by decide) rfl rfl rfl rfl (Nat.le_of_ble_eq_true rfl) dX12_item_10 (fun H locs V => ?_)
    have V : VW g A s.heap H locs (gX12 g a_this a_this_z a_this_saved a_this_text a_this_line a_this_aside a_this_read a_this_fewest 1 z saves saved length text many line aside isWord entries rdA fewest h) := V
    refine lv_iconst (v := 0) hx hb dX12_item_13 (by decide) ?_
    exact ret _ _ _ _ _ _ rfl dX12_item_14 V hw
theorem hdX12_entryNow : yX12_entryNow.cls = RX12 ∧ yX12_entryNow.cls ≠ "java/lang/invoke/MethodHandle" ∧ yX12_entryNow.cls ≠ "java/lang/invoke/VarHandle" ∧ (parseMethodDescriptor yX12_entryNow.desc).map (fun d => d.parameters.length) = some 2 := by decide +kernel
theorem fX12_entryNow_7 : Cond.fieldLink RX12 7 RX12 "z" "[I" ∈ wsX12_entryNow := by decide +kernel
theorem iX12_entryNow_X12 : ∀ w ∈ u_ws RX12 TX12 14, w ∈ wsX12_entryNow := by decide +kernel
def wX12_entryNow (z : Nat → Int32) (p1 : Int32) (p2 : Int32) (P : Int32 → Prop) : Prop := wX12_entryAt p1 (fun r_1 => (p2 = 0 → vp_in r_1 1317 ∧ P (z r_1.toNatClampNeg)) ∧ (p2 = 1 → (5 ≤ p2 → vp_in (r_1 + 5) 1317 ∧ ((z (r_1 + 5).toNatClampNeg) ≤ (p2 - 8) → P (-1)) ∧ (¬ ((z (r_1 + 5).toNatClampNeg) ≤ (p2 - 8)) → vp_in (((r_1 + 6) + p2) - 8) 1317 ∧ P (z (((r_1 + 6) + p2) - 8).toNatClampNeg))) ∧ (¬ (5 ≤ p2) → vp_in r_1 1317 ∧ ((z r_1.toNatClampNeg) ≤ (p2 - 1) → P (-1)) ∧ (¬ ((z r_1.toNatClampNeg) ≤ (p2 - 1)) → vp_in (r_1 + p2) 1317 ∧ P (z (r_1 + p2).toNatClampNeg)))) ∧ (p2 = 2 → (5 ≤ p2 → vp_in (r_1 + 5) 1317 ∧ ((z (r_1 + 5).toNatClampNeg) ≤ (p2 - 8) → P (-1)) ∧ (¬ ((z (r_1 + 5).toNatClampNeg) ≤ (p2 - 8)) → vp_in (((r_1 + 6) + p2) - 8) 1317 ∧ P (z (((r_1 + 6) + p2) - 8).toNatClampNeg))) ∧ (¬ (5 ≤ p2) → vp_in r_1 1317 ∧ ((z r_1.toNatClampNeg) ≤ (p2 - 1) → P (-1)) ∧ (¬ ((z r_1.toNatClampNeg) ≤ (p2 - 1)) → vp_in (r_1 + p2) 1317 ∧ P (z (r_1 + p2).toNatClampNeg)))) ∧ (p2 = 3 → (5 ≤ p2 → vp_in (r_1 + 5) 1317 ∧ ((z (r_1 + 5).toNatClampNeg) ≤ (p2 - 8) → P (-1)) ∧ (¬ ((z (r_1 + 5).toNatClampNeg) ≤ (p2 - 8)) → vp_in (((r_1 + 6) + p2) - 8) 1317 ∧ P (z (((r_1 + 6) + p2) - 8).toNatClampNeg))) ∧ (¬ (5 ≤ p2) → vp_in r_1 1317 ∧ ((z r_1.toNatClampNeg) ≤ (p2 - 1) → P (-1)) ∧ (¬ ((z r_1.toNatClampNeg) ≤ (p2 - 1)) → vp_in (r_1 + p2) 1317 ∧ P (z (r_1 + p2).toNatClampNeg)))) ∧ (p2 = 4 → (5 ≤ p2 → vp_in (r_1 + 5) 1317 ∧ ((z (r_1 + 5).toNatClampNeg) ≤ (p2 - 8) → P (-1)) ∧ (¬ ((z (r_1 + 5).toNatClampNeg) ≤ (p2 - 8)) → vp_in (((r_1 + 6) + p2) - 8) 1317 ∧ P (z (((r_1 + 6) + p2) - 8).toNatClampNeg))) ∧ (¬ (5 ≤ p2) → vp_in r_1 1317 ∧ ((z r_1.toNatClampNeg) ≤ (p2 - 1) → P (-1)) ∧ (¬ ((z r_1.toNatClampNeg) ≤ (p2 - 1)) → vp_in (r_1 + p2) 1317 ∧ P (z (r_1 + p2).toNatClampNeg)))) ∧ (p2 = 5 → vp_in (r_1 + 5) 1317 ∧ P (z (r_1 + 5).toNatClampNeg)) ∧ (p2 = 6 → wX12_clash z p1 (fun r_70 => P r_70)) ∧ (p2 = 7 → wX12_madeBy z p1 (fun r_76 => P r_76)) ∧ (¬ p2 = 0 → ¬ p2 = 1 → ¬ p2 = 2 → ¬ p2 = 3 → ¬ p2 = 4 → ¬ p2 = 5 → ¬ p2 = 6 → ¬ p2 = 7 → (5 ≤ p2 → vp_in (r_1 + 5) 1317 ∧ ((z (r_1 + 5).toNatClampNeg) ≤ (p2 - 8) → P (-1)) ∧ (¬ ((z (r_1 + 5).toNatClampNeg) ≤ (p2 - 8)) → vp_in (((r_1 + 6) + p2) - 8) 1317 ∧ P (z (((r_1 + 6) + p2) - 8).toNatClampNeg))) ∧ (¬ (5 ≤ p2) → vp_in r_1 1317 ∧ ((z r_1.toNatClampNeg) ≤ (p2 - 1) → P (-1)) ∧ (¬ ((z r_1.toNatClampNeg) ≤ (p2 - 1)) → vp_in (r_1 + p2) 1317 ∧ P (z (r_1 + p2).toNatClampNeg)))))
set_option maxHeartbeats 4000000 in
set_option maxRecDepth 100000 in
theorem kX12_entryNow (l : Launch) (g : kT) (a_this : Nat) (a_this_z : Nat) (a_this_saved : Nat) (a_this_text : Nat) (a_this_line : Nat) (a_this_aside : Nat) (a_this_read : Nat) (a_this_fewest : Nat) (thrown : Int32) (z : Nat → Int32) (saves : Int32) (saved : Nat → Int32) (length : Int32) (text : Nat → Int32) (many : Int32) (line : Nat → Int32) (aside : Nat → Int32) (isWord : Int32) (entries : Int32) (rdA : Nat → Int32) (fewest : Nat → Int32) (h : Int64) (p1 : Int32) (p2 : Int32) (P : Int32 → Prop) (hw : wX12_entryNow z p1 p2 P) : Ki0 l g yX12_entryNow wsX12_entryNow 4 95 0 0 [.ref a_this, .int p1, .int p2] (gX12 g a_this a_this_z a_this_saved a_this_text a_this_line a_this_aside a_this_read a_this_fewest thrown z saves saved length text many line aside isWord entries rdA fewest h) P (gX12 g a_this a_this_z a_this_saved a_this_text a_this_line a_this_aside a_this_read a_this_fewest thrown z saves saved length text many line aside isWord entries rdA fewest h) := by
  refine Ki0.mk (cc := cX12_entryNow) (nL := 4) (ty := .int) (by decide +kernel) rfl (Nat.le_of_ble_eq_true rfl) ?_
  intro p e s m below meth c A Q ls F hl V ret
  have hx := F.x
  have hb := F.b
  have hl : lv_has ls 4 [(0, .ref a_this), (1, .int p1), (2, .int p2)] := hl
  refine lv_iload_n hx hb dX12_entryNow_0 rfl (lv_at hl 1 rfl) ?_
  refine kSi0n (rest := []) F hl V (kX12_entryAt l g p1 _ hw) gX12_entryNow_X12_entryAt rfl 1 rfl hdX12_entryAt ⟨Nat.le_of_ble_eq_true rfl, Nat.le_of_ble_eq_true rfl⟩ ⟨Nat.le_of_ble_eq_true rfl, Nat.le_of_ble_eq_true rfl⟩ (Nat.le_of_ble_eq_true rfl) rfl dX12_entryNow_1 (fun r_1 H locs hw V => ?_)
  refine lv_istore_n (lv' := [(3, .int r_1), (0, .ref a_this), (1, .int p1), (2, .int p2)]) hx hb dX12_entryNow_4 rfl hl (by decide) rfl (fun ls hl => ?_)
  refine lv_iload_n hx hb dX12_entryNow_5 rfl (lv_at hl 3 rfl) ?_
  by_cases c_6_0 : p2 = 0
  · have hw := hw.1 c_6_0
    refine lv_tableIn (tgt := 52) hx hb dX12_entryNow_6 (by rw [c_6_0]; decide) (by rw [c_6_0]; decide) (by rw [c_6_0]; rfl) (by decide) ?_
    refine lv_aload_n hx hb dX12_entryNow_52 rfl (lv_at hl 1 rfl) ?_
    refine kget F V 8 1 0 rfl rfl iX12_entryNow_X12 fX12_entryNow_7 (by decide) rfl rfl dX12_entryNow_53 ?_
    refine lv_iload_n hx hb dX12_entryNow_56 rfl (lv_at hl 0 rfl) ?_
    refine kiald F V 1 rfl hw.1 dX12_entryNow_57 ?_
    have hw := hw.2
    exact ret _ _ _ _ _ rfl dX12_entryNow_58 V hw
  by_cases c_6_1 : p2 = 1
  · have hw := hw.2.1 c_6_1
    refine lv_tableIn (tgt := 80) hx hb dX12_entryNow_6 (by rw [c_6_1]; decide) (by rw [c_6_1]; decide) (by rw [c_6_1]; rfl) (by decide) ?_
    refine lv_iload_n hx hb dX12_entryNow_80 rfl (lv_at hl 3 rfl) ?_
    refine lv_iconst (v := 5) hx hb dX12_entryNow_81 (by decide) ?_
    refine lv_icmp_ge (tgt := 112) hx hb dX12_entryNow_82 (by decide) (fun c_82 => ?_) (fun c_82 => ?_)
    · have hw := hw.1 c_82
      refine lv_iload_n hx hb dX12_entryNow_112 rfl (lv_at hl 3 rfl) ?_
      refine lv_bipush (v := 8) hx hb dX12_entryNow_113 (by decide) ?_
      refine lv_isub hx hb dX12_entryNow_115 ?_
      refine lv_aload_n hx hb dX12_entryNow_116 rfl (lv_at hl 1 rfl) ?_
      refine kget F V 8 1 0 rfl rfl iX12_entryNow_X12 fX12_entryNow_7 (by decide) rfl rfl dX12_entryNow_117 ?_
      refine lv_iload_n hx hb dX12_entryNow_120 rfl (lv_at hl 0 rfl) ?_
      refine lv_iconst (v := 5) hx hb dX12_entryNow_121 (by decide) ?_
      refine lv_iadd hx hb dX12_entryNow_122 ?_
      refine kiald F V 1 rfl hw.1 dX12_entryNow_123 ?_
      have hw := hw.2
      refine lv_icmp_ge (tgt := 144) hx hb dX12_entryNow_124 (by decide) (fun c_124 => ?_) (fun c_124 => ?_)
      · have hw := hw.1 c_124
        refine lv_iconst (v := (-1)) hx hb dX12_entryNow_144 (by decide) ?_
        exact ret _ _ _ _ _ rfl dX12_entryNow_145 V hw
      · have hw := hw.2 c_124
        refine lv_aload_n hx hb dX12_entryNow_127 rfl (lv_at hl 1 rfl) ?_
        refine kget F V 8 1 0 rfl rfl iX12_entryNow_X12 fX12_entryNow_7 (by decide) rfl rfl dX12_entryNow_128 ?_
        refine lv_iload_n hx hb dX12_entryNow_131 rfl (lv_at hl 0 rfl) ?_
        refine lv_bipush (v := 6) hx hb dX12_entryNow_132 (by decide) ?_
        refine lv_iadd hx hb dX12_entryNow_134 ?_
        refine lv_iload_n hx hb dX12_entryNow_135 rfl (lv_at hl 3 rfl) ?_
        refine lv_iadd hx hb dX12_entryNow_136 ?_
        refine lv_bipush (v := 8) hx hb dX12_entryNow_137 (by decide) ?_
        refine lv_isub hx hb dX12_entryNow_139 ?_
        refine kiald F V 1 rfl hw.1 dX12_entryNow_140 ?_
        have hw := hw.2
        refine lv_goto (tgt := 145) hx hb dX12_entryNow_141 (by decide) ?_
        exact ret _ _ _ _ _ rfl dX12_entryNow_145 V hw
    · have hw := hw.2 c_82
      refine lv_iload_n hx hb dX12_entryNow_85 rfl (lv_at hl 3 rfl) ?_
      refine lv_iconst (v := 1) hx hb dX12_entryNow_86 (by decide) ?_
      refine lv_isub hx hb dX12_entryNow_87 ?_
      refine lv_aload_n hx hb dX12_entryNow_88 rfl (lv_at hl 1 rfl) ?_
      refine kget F V 8 1 0 rfl rfl iX12_entryNow_X12 fX12_entryNow_7 (by decide) rfl rfl dX12_entryNow_89 ?_
      refine lv_iload_n hx hb dX12_entryNow_92 rfl (lv_at hl 0 rfl) ?_
      refine kiald F V 1 rfl hw.1 dX12_entryNow_93 ?_
      have hw := hw.2
      refine lv_icmp_ge (tgt := 108) hx hb dX12_entryNow_94 (by decide) (fun c_94 => ?_) (fun c_94 => ?_)
      · have hw := hw.1 c_94
        refine lv_iconst (v := (-1)) hx hb dX12_entryNow_108 (by decide) ?_
        refine lv_goto (tgt := 145) hx hb dX12_entryNow_109 (by decide) ?_
        exact ret _ _ _ _ _ rfl dX12_entryNow_145 V hw
      · have hw := hw.2 c_94
        refine lv_aload_n hx hb dX12_entryNow_97 rfl (lv_at hl 1 rfl) ?_
        refine kget F V 8 1 0 rfl rfl iX12_entryNow_X12 fX12_entryNow_7 (by decide) rfl rfl dX12_entryNow_98 ?_
        refine lv_iload_n hx hb dX12_entryNow_101 rfl (lv_at hl 0 rfl) ?_
        refine lv_iload_n hx hb dX12_entryNow_102 rfl (lv_at hl 3 rfl) ?_
        refine lv_iadd hx hb dX12_entryNow_103 ?_
        refine kiald F V 1 rfl hw.1 dX12_entryNow_104 ?_
        have hw := hw.2
        refine lv_goto (tgt := 145) hx hb dX12_entryNow_105 (by decide) ?_
        exact ret _ _ _ _ _ rfl dX12_entryNow_145 V hw
  by_cases c_6_2 : p2 = 2
  · have hw := hw.2.2.1 c_6_2
    refine lv_tableIn (tgt := 80) hx hb dX12_entryNow_6 (by rw [c_6_2]; decide) (by rw [c_6_2]; decide) (by rw [c_6_2]; rfl) (by decide) ?_
    refine lv_iload_n hx hb dX12_entryNow_80 rfl (lv_at hl 3 rfl) ?_
    refine lv_iconst (v := 5) hx hb dX12_entryNow_81 (by decide) ?_
    refine lv_icmp_ge (tgt := 112) hx hb dX12_entryNow_82 (by decide) (fun c_82 => ?_) (fun c_82 => ?_)
    · have hw := hw.1 c_82
      refine lv_iload_n hx hb dX12_entryNow_112 rfl (lv_at hl 3 rfl) ?_
      refine lv_bipush (v := 8) hx hb dX12_entryNow_113 (by decide) ?_
      refine lv_isub hx hb dX12_entryNow_115 ?_
      refine lv_aload_n hx hb dX12_entryNow_116 rfl (lv_at hl 1 rfl) ?_
      refine kget F V 8 1 0 rfl rfl iX12_entryNow_X12 fX12_entryNow_7 (by decide) rfl rfl dX12_entryNow_117 ?_
      refine lv_iload_n hx hb dX12_entryNow_120 rfl (lv_at hl 0 rfl) ?_
      refine lv_iconst (v := 5) hx hb dX12_entryNow_121 (by decide) ?_
      refine lv_iadd hx hb dX12_entryNow_122 ?_
      refine kiald F V 1 rfl hw.1 dX12_entryNow_123 ?_
      have hw := hw.2
      refine lv_icmp_ge (tgt := 144) hx hb dX12_entryNow_124 (by decide) (fun c_124 => ?_) (fun c_124 => ?_)
      · have hw := hw.1 c_124
        refine lv_iconst (v := (-1)) hx hb dX12_entryNow_144 (by decide) ?_
        exact ret _ _ _ _ _ rfl dX12_entryNow_145 V hw
      · have hw := hw.2 c_124
        refine lv_aload_n hx hb dX12_entryNow_127 rfl (lv_at hl 1 rfl) ?_
        refine kget F V 8 1 0 rfl rfl iX12_entryNow_X12 fX12_entryNow_7 (by decide) rfl rfl dX12_entryNow_128 ?_
        refine lv_iload_n hx hb dX12_entryNow_131 rfl (lv_at hl 0 rfl) ?_
        refine lv_bipush (v := 6) hx hb dX12_entryNow_132 (by decide) ?_
        refine lv_iadd hx hb dX12_entryNow_134 ?_
        refine lv_iload_n hx hb dX12_entryNow_135 rfl (lv_at hl 3 rfl) ?_
        refine lv_iadd hx hb dX12_entryNow_136 ?_
        refine lv_bipush (v := 8) hx hb dX12_entryNow_137 (by decide) ?_
        refine lv_isub hx hb dX12_entryNow_139 ?_
        refine kiald F V 1 rfl hw.1 dX12_entryNow_140 ?_
        have hw := hw.2
        refine lv_goto (tgt := 145) hx hb dX12_entryNow_141 (by decide) ?_
        exact ret _ _ _ _ _ rfl dX12_entryNow_145 V hw
    · have hw := hw.2 c_82
      refine lv_iload_n hx hb dX12_entryNow_85 rfl (lv_at hl 3 rfl) ?_
      refine lv_iconst (v := 1) hx hb dX12_entryNow_86 (by decide) ?_
      refine lv_isub hx hb dX12_entryNow_87 ?_
      refine lv_aload_n hx hb dX12_entryNow_88 rfl (lv_at hl 1 rfl) ?_
      refine kget F V 8 1 0 rfl rfl iX12_entryNow_X12 fX12_entryNow_7 (by decide) rfl rfl dX12_entryNow_89 ?_
      refine lv_iload_n hx hb dX12_entryNow_92 rfl (lv_at hl 0 rfl) ?_
      refine kiald F V 1 rfl hw.1 dX12_entryNow_93 ?_
      have hw := hw.2
      refine lv_icmp_ge (tgt := 108) hx hb dX12_entryNow_94 (by decide) (fun c_94 => ?_) (fun c_94 => ?_)
      · have hw := hw.1 c_94
        refine lv_iconst (v := (-1)) hx hb dX12_entryNow_108 (by decide) ?_
        refine lv_goto (tgt := 145) hx hb dX12_entryNow_109 (by decide) ?_
        exact ret _ _ _ _ _ rfl dX12_entryNow_145 V hw
      · have hw := hw.2 c_94
        refine lv_aload_n hx hb dX12_entryNow_97 rfl (lv_at hl 1 rfl) ?_
        refine kget F V 8 1 0 rfl rfl iX12_entryNow_X12 fX12_entryNow_7 (by decide) rfl rfl dX12_entryNow_98 ?_
        refine lv_iload_n hx hb dX12_entryNow_101 rfl (lv_at hl 0 rfl) ?_
        refine lv_iload_n hx hb dX12_entryNow_102 rfl (lv_at hl 3 rfl) ?_
        refine lv_iadd hx hb dX12_entryNow_103 ?_
        refine kiald F V 1 rfl hw.1 dX12_entryNow_104 ?_
        have hw := hw.2
        refine lv_goto (tgt := 145) hx hb dX12_entryNow_105 (by decide) ?_
        exact ret _ _ _ _ _ rfl dX12_entryNow_145 V hw
  by_cases c_6_3 : p2 = 3
  · have hw := hw.2.2.2.1 c_6_3
    refine lv_tableIn (tgt := 80) hx hb dX12_entryNow_6 (by rw [c_6_3]; decide) (by rw [c_6_3]; decide) (by rw [c_6_3]; rfl) (by decide) ?_
    refine lv_iload_n hx hb dX12_entryNow_80 rfl (lv_at hl 3 rfl) ?_
    refine lv_iconst (v := 5) hx hb dX12_entryNow_81 (by decide) ?_
    refine lv_icmp_ge (tgt := 112) hx hb dX12_entryNow_82 (by decide) (fun c_82 => ?_) (fun c_82 => ?_)
    · have hw := hw.1 c_82
      refine lv_iload_n hx hb dX12_entryNow_112 rfl (lv_at hl 3 rfl) ?_
      refine lv_bipush (v := 8) hx hb dX12_entryNow_113 (by decide) ?_
      refine lv_isub hx hb dX12_entryNow_115 ?_
      refine lv_aload_n hx hb dX12_entryNow_116 rfl (lv_at hl 1 rfl) ?_
      refine kget F V 8 1 0 rfl rfl iX12_entryNow_X12 fX12_entryNow_7 (by decide) rfl rfl dX12_entryNow_117 ?_
      refine lv_iload_n hx hb dX12_entryNow_120 rfl (lv_at hl 0 rfl) ?_
      refine lv_iconst (v := 5) hx hb dX12_entryNow_121 (by decide) ?_
      refine lv_iadd hx hb dX12_entryNow_122 ?_
      refine kiald F V 1 rfl hw.1 dX12_entryNow_123 ?_
      have hw := hw.2
      refine lv_icmp_ge (tgt := 144) hx hb dX12_entryNow_124 (by decide) (fun c_124 => ?_) (fun c_124 => ?_)
      · have hw := hw.1 c_124
        refine lv_iconst (v := (-1)) hx hb dX12_entryNow_144 (by decide) ?_
        exact ret _ _ _ _ _ rfl dX12_entryNow_145 V hw
      · have hw := hw.2 c_124
        refine lv_aload_n hx hb dX12_entryNow_127 rfl (lv_at hl 1 rfl) ?_
        refine kget F V 8 1 0 rfl rfl iX12_entryNow_X12 fX12_entryNow_7 (by decide) rfl rfl dX12_entryNow_128 ?_
        refine lv_iload_n hx hb dX12_entryNow_131 rfl (lv_at hl 0 rfl) ?_
        refine lv_bipush (v := 6) hx hb dX12_entryNow_132 (by decide) ?_
        refine lv_iadd hx hb dX12_entryNow_134 ?_
        refine lv_iload_n hx hb dX12_entryNow_135 rfl (lv_at hl 3 rfl) ?_
        refine lv_iadd hx hb dX12_entryNow_136 ?_
        refine lv_bipush (v := 8) hx hb dX12_entryNow_137 (by decide) ?_
        refine lv_isub hx hb dX12_entryNow_139 ?_
        refine kiald F V 1 rfl hw.1 dX12_entryNow_140 ?_
        have hw := hw.2
        refine lv_goto (tgt := 145) hx hb dX12_entryNow_141 (by decide) ?_
        exact ret _ _ _ _ _ rfl dX12_entryNow_145 V hw
    · have hw := hw.2 c_82
      refine lv_iload_n hx hb dX12_entryNow_85 rfl (lv_at hl 3 rfl) ?_
      refine lv_iconst (v := 1) hx hb dX12_entryNow_86 (by decide) ?_
      refine lv_isub hx hb dX12_entryNow_87 ?_
      refine lv_aload_n hx hb dX12_entryNow_88 rfl (lv_at hl 1 rfl) ?_
      refine kget F V 8 1 0 rfl rfl iX12_entryNow_X12 fX12_entryNow_7 (by decide) rfl rfl dX12_entryNow_89 ?_
      refine lv_iload_n hx hb dX12_entryNow_92 rfl (lv_at hl 0 rfl) ?_
      refine kiald F V 1 rfl hw.1 dX12_entryNow_93 ?_
      have hw := hw.2
      refine lv_icmp_ge (tgt := 108) hx hb dX12_entryNow_94 (by decide) (fun c_94 => ?_) (fun c_94 => ?_)
      · have hw := hw.1 c_94
        refine lv_iconst (v := (-1)) hx hb dX12_entryNow_108 (by decide) ?_
        refine lv_goto (tgt := 145) hx hb dX12_entryNow_109 (by decide) ?_
        exact ret _ _ _ _ _ rfl dX12_entryNow_145 V hw
      · have hw := hw.2 c_94
        refine lv_aload_n hx hb dX12_entryNow_97 rfl (lv_at hl 1 rfl) ?_
        refine kget F V 8 1 0 rfl rfl iX12_entryNow_X12 fX12_entryNow_7 (by decide) rfl rfl dX12_entryNow_98 ?_
        refine lv_iload_n hx hb dX12_entryNow_101 rfl (lv_at hl 0 rfl) ?_
        refine lv_iload_n hx hb dX12_entryNow_102 rfl (lv_at hl 3 rfl) ?_
        refine lv_iadd hx hb dX12_entryNow_103 ?_
        refine kiald F V 1 rfl hw.1 dX12_entryNow_104 ?_
        have hw := hw.2
        refine lv_goto (tgt := 145) hx hb dX12_entryNow_105 (by decide) ?_
        exact ret _ _ _ _ _ rfl dX12_entryNow_145 V hw
  by_cases c_6_4 : p2 = 4
  · have hw := hw.2.2.2.2.1 c_6_4
    refine lv_tableIn (tgt := 80) hx hb dX12_entryNow_6 (by rw [c_6_4]; decide) (by rw [c_6_4]; decide) (by rw [c_6_4]; rfl) (by decide) ?_
    refine lv_iload_n hx hb dX12_entryNow_80 rfl (lv_at hl 3 rfl) ?_
    refine lv_iconst (v := 5) hx hb dX12_entryNow_81 (by decide) ?_
    refine lv_icmp_ge (tgt := 112) hx hb dX12_entryNow_82 (by decide) (fun c_82 => ?_) (fun c_82 => ?_)
    · have hw := hw.1 c_82
      refine lv_iload_n hx hb dX12_entryNow_112 rfl (lv_at hl 3 rfl) ?_
      refine lv_bipush (v := 8) hx hb dX12_entryNow_113 (by decide) ?_
      refine lv_isub hx hb dX12_entryNow_115 ?_
      refine lv_aload_n hx hb dX12_entryNow_116 rfl (lv_at hl 1 rfl) ?_
      refine kget F V 8 1 0 rfl rfl iX12_entryNow_X12 fX12_entryNow_7 (by decide) rfl rfl dX12_entryNow_117 ?_
      refine lv_iload_n hx hb dX12_entryNow_120 rfl (lv_at hl 0 rfl) ?_
      refine lv_iconst (v := 5) hx hb dX12_entryNow_121 (by decide) ?_
      refine lv_iadd hx hb dX12_entryNow_122 ?_
      refine kiald F V 1 rfl hw.1 dX12_entryNow_123 ?_
      have hw := hw.2
      refine lv_icmp_ge (tgt := 144) hx hb dX12_entryNow_124 (by decide) (fun c_124 => ?_) (fun c_124 => ?_)
      · have hw := hw.1 c_124
        refine lv_iconst (v := (-1)) hx hb dX12_entryNow_144 (by decide) ?_
        exact ret _ _ _ _ _ rfl dX12_entryNow_145 V hw
      · have hw := hw.2 c_124
        refine lv_aload_n hx hb dX12_entryNow_127 rfl (lv_at hl 1 rfl) ?_
        refine kget F V 8 1 0 rfl rfl iX12_entryNow_X12 fX12_entryNow_7 (by decide) rfl rfl dX12_entryNow_128 ?_
        refine lv_iload_n hx hb dX12_entryNow_131 rfl (lv_at hl 0 rfl) ?_
        refine lv_bipush (v := 6) hx hb dX12_entryNow_132 (by decide) ?_
        refine lv_iadd hx hb dX12_entryNow_134 ?_
        refine lv_iload_n hx hb dX12_entryNow_135 rfl (lv_at hl 3 rfl) ?_
        refine lv_iadd hx hb dX12_entryNow_136 ?_
        refine lv_bipush (v := 8) hx hb dX12_entryNow_137 (by decide) ?_
        refine lv_isub hx hb dX12_entryNow_139 ?_
        refine kiald F V 1 rfl hw.1 dX12_entryNow_140 ?_
        have hw := hw.2
        refine lv_goto (tgt := 145) hx hb dX12_entryNow_141 (by decide) ?_
        exact ret _ _ _ _ _ rfl dX12_entryNow_145 V hw
    · have hw := hw.2 c_82
      refine lv_iload_n hx hb dX12_entryNow_85 rfl (lv_at hl 3 rfl) ?_
      refine lv_iconst (v := 1) hx hb dX12_entryNow_86 (by decide) ?_
      refine lv_isub hx hb dX12_entryNow_87 ?_
      refine lv_aload_n hx hb dX12_entryNow_88 rfl (lv_at hl 1 rfl) ?_
      refine kget F V 8 1 0 rfl rfl iX12_entryNow_X12 fX12_entryNow_7 (by decide) rfl rfl dX12_entryNow_89 ?_
      refine lv_iload_n hx hb dX12_entryNow_92 rfl (lv_at hl 0 rfl) ?_
      refine kiald F V 1 rfl hw.1 dX12_entryNow_93 ?_
      have hw := hw.2
      refine lv_icmp_ge (tgt := 108) hx hb dX12_entryNow_94 (by decide) (fun c_94 => ?_) (fun c_94 => ?_)
      · have hw := hw.1 c_94
        refine lv_iconst (v := (-1)) hx hb dX12_entryNow_108 (by decide) ?_
        refine lv_goto (tgt := 145) hx hb dX12_entryNow_109 (by decide) ?_
        exact ret _ _ _ _ _ rfl dX12_entryNow_145 V hw
      · have hw := hw.2 c_94
        refine lv_aload_n hx hb dX12_entryNow_97 rfl (lv_at hl 1 rfl) ?_
        refine kget F V 8 1 0 rfl rfl iX12_entryNow_X12 fX12_entryNow_7 (by decide) rfl rfl dX12_entryNow_98 ?_
        refine lv_iload_n hx hb dX12_entryNow_101 rfl (lv_at hl 0 rfl) ?_
        refine lv_iload_n hx hb dX12_entryNow_102 rfl (lv_at hl 3 rfl) ?_
        refine lv_iadd hx hb dX12_entryNow_103 ?_
        refine kiald F V 1 rfl hw.1 dX12_entryNow_104 ?_
        have hw := hw.2
        refine lv_goto (tgt := 145) hx hb dX12_entryNow_105 (by decide) ?_
        exact ret _ _ _ _ _ rfl dX12_entryNow_145 V hw
  by_cases c_6_5 : p2 = 5
  · have hw := hw.2.2.2.2.2.1 c_6_5
    refine lv_tableIn (tgt := 59) hx hb dX12_entryNow_6 (by rw [c_6_5]; decide) (by rw [c_6_5]; decide) (by rw [c_6_5]; rfl) (by decide) ?_
    refine lv_aload_n hx hb dX12_entryNow_59 rfl (lv_at hl 1 rfl) ?_
    refine kget F V 8 1 0 rfl rfl iX12_entryNow_X12 fX12_entryNow_7 (by decide) rfl rfl dX12_entryNow_60 ?_
    refine lv_iload_n hx hb dX12_entryNow_63 rfl (lv_at hl 0 rfl) ?_
    refine lv_iconst (v := 5) hx hb dX12_entryNow_64 (by decide) ?_
    refine lv_iadd hx hb dX12_entryNow_65 ?_
    refine kiald F V 1 rfl hw.1 dX12_entryNow_66 ?_
    have hw := hw.2
    exact ret _ _ _ _ _ rfl dX12_entryNow_67 V hw
  by_cases c_6_6 : p2 = 6
  · have hw := hw.2.2.2.2.2.2.1 c_6_6
    refine lv_tableIn (tgt := 68) hx hb dX12_entryNow_6 (by rw [c_6_6]; decide) (by rw [c_6_6]; decide) (by rw [c_6_6]; rfl) (by decide) ?_
    refine lv_aload_n hx hb dX12_entryNow_68 rfl (lv_at hl 1 rfl) ?_
    refine lv_iload_n hx hb dX12_entryNow_69 rfl (lv_at hl 2 rfl) ?_
    refine kVi0 (rest := []) F hl V [0, 1, 2, 3, 4, 5, 6, 7] [] [0, 1, 2, 3, 4, 5, 6, 7] (gX12 g a_this a_this_z a_this_saved a_this_text a_this_line a_this_aside a_this_read a_this_fewest thrown z saves saved length text many line aside isWord entries rdA fewest h) a_this 8 0 rfl rfl (kX12_clash l g a_this a_this_z a_this_saved a_this_text a_this_line a_this_aside a_this_read a_this_fewest thrown z saves saved length text many line aside isWord entries rdA fewest h p1 _ hw) gX12_entryNow_X12_clash rfl 1 rfl hdX12_clash rfl rfl (fun _ => rfl) rfl rfl rfl (by decide) ⟨Nat.le_of_ble_eq_true rfl, Nat.le_of_ble_eq_true rfl⟩ ⟨Nat.le_of_ble_eq_true rfl, Nat.le_of_ble_eq_true rfl⟩ (Nat.le_of_ble_eq_true rfl) rfl dX12_entryNow_70 (fun r_70 H locs hw V => ?_)
    exact ret _ _ _ _ _ rfl dX12_entryNow_73 V hw
  by_cases c_6_7 : p2 = 7
  · have hw := hw.2.2.2.2.2.2.2.1 c_6_7
    refine lv_tableIn (tgt := 74) hx hb dX12_entryNow_6 (by rw [c_6_7]; decide) (by rw [c_6_7]; decide) (by rw [c_6_7]; rfl) (by decide) ?_
    refine lv_aload_n hx hb dX12_entryNow_74 rfl (lv_at hl 1 rfl) ?_
    refine lv_iload_n hx hb dX12_entryNow_75 rfl (lv_at hl 2 rfl) ?_
    refine kVi0 (rest := []) F hl V [0, 1, 2, 3, 4, 5, 6, 7] [] [0, 1, 2, 3, 4, 5, 6, 7] (gX12 g a_this a_this_z a_this_saved a_this_text a_this_line a_this_aside a_this_read a_this_fewest thrown z saves saved length text many line aside isWord entries rdA fewest h) a_this 8 0 rfl rfl (kX12_madeBy l g a_this a_this_z a_this_saved a_this_text a_this_line a_this_aside a_this_read a_this_fewest thrown z saves saved length text many line aside isWord entries rdA fewest h p1 _ hw) gX12_entryNow_X12_madeBy rfl 1 rfl hdX12_madeBy rfl rfl (fun _ => rfl) rfl rfl rfl (by decide) ⟨Nat.le_of_ble_eq_true rfl, Nat.le_of_ble_eq_true rfl⟩ ⟨Nat.le_of_ble_eq_true rfl, Nat.le_of_ble_eq_true rfl⟩ (Nat.le_of_ble_eq_true rfl) rfl dX12_entryNow_76 (fun r_76 H locs hw V => ?_)
    exact ret _ _ _ _ _ rfl dX12_entryNow_79 V hw
  have hw := hw.2.2.2.2.2.2.2.2 c_6_0 c_6_1 c_6_2 c_6_3 c_6_4 c_6_5 c_6_6 c_6_7
  refine lv_tableOut (tgt := 80) hx hb dX12_entryNow_6 (by have i_0 : ¬ (p2).toInt = 0 := fun q => c_6_0 (Int32.toInt_inj.mp (by rw [q]; rfl)); have i_1 : ¬ (p2).toInt = 1 := fun q => c_6_1 (Int32.toInt_inj.mp (by rw [q]; rfl)); have i_2 : ¬ (p2).toInt = 2 := fun q => c_6_2 (Int32.toInt_inj.mp (by rw [q]; rfl)); have i_3 : ¬ (p2).toInt = 3 := fun q => c_6_3 (Int32.toInt_inj.mp (by rw [q]; rfl)); have i_4 : ¬ (p2).toInt = 4 := fun q => c_6_4 (Int32.toInt_inj.mp (by rw [q]; rfl)); have i_5 : ¬ (p2).toInt = 5 := fun q => c_6_5 (Int32.toInt_inj.mp (by rw [q]; rfl)); have i_6 : ¬ (p2).toInt = 6 := fun q => c_6_6 (Int32.toInt_inj.mp (by rw [q]; rfl)); have i_7 : ¬ (p2).toInt = 7 := fun q => c_6_7 (Int32.toInt_inj.mp (by rw [q]; rfl)); omega) (by decide) ?_
  refine lv_iload_n hx hb dX12_entryNow_80 rfl (lv_at hl 3 rfl) ?_
  refine lv_iconst (v := 5) hx hb dX12_entryNow_81 (by decide) ?_
  refine lv_icmp_ge (tgt := 112) hx hb dX12_entryNow_82 (by decide) (fun c_82 => ?_) (fun c_82 => ?_)
  · have hw := hw.1 c_82
    refine lv_iload_n hx hb dX12_entryNow_112 rfl (lv_at hl 3 rfl) ?_
    refine lv_bipush (v := 8) hx hb dX12_entryNow_113 (by decide) ?_
    refine lv_isub hx hb dX12_entryNow_115 ?_
    refine lv_aload_n hx hb dX12_entryNow_116 rfl (lv_at hl 1 rfl) ?_
    refine kget F V 8 1 0 rfl rfl iX12_entryNow_X12 fX12_entryNow_7 (by decide) rfl rfl dX12_entryNow_117 ?_
    refine lv_iload_n hx hb dX12_entryNow_120 rfl (lv_at hl 0 rfl) ?_
    refine lv_iconst (v := 5) hx hb dX12_entryNow_121 (by decide) ?_
    refine lv_iadd hx hb dX12_entryNow_122 ?_
    refine kiald F V 1 rfl hw.1 dX12_entryNow_123 ?_
    have hw := hw.2
    refine lv_icmp_ge (tgt := 144) hx hb dX12_entryNow_124 (by decide) (fun c_124 => ?_) (fun c_124 => ?_)
    · have hw := hw.1 c_124
      refine lv_iconst (v := (-1)) hx hb dX12_entryNow_144 (by decide) ?_
      exact ret _ _ _ _ _ rfl dX12_entryNow_145 V hw
    · have hw := hw.2 c_124
      refine lv_aload_n hx hb dX12_entryNow_127 rfl (lv_at hl 1 rfl) ?_
      refine kget F V 8 1 0 rfl rfl iX12_entryNow_X12 fX12_entryNow_7 (by decide) rfl rfl dX12_entryNow_128 ?_
      refine lv_iload_n hx hb dX12_entryNow_131 rfl (lv_at hl 0 rfl) ?_
      refine lv_bipush (v := 6) hx hb dX12_entryNow_132 (by decide) ?_
      refine lv_iadd hx hb dX12_entryNow_134 ?_
      refine lv_iload_n hx hb dX12_entryNow_135 rfl (lv_at hl 3 rfl) ?_
      refine lv_iadd hx hb dX12_entryNow_136 ?_
      refine lv_bipush (v := 8) hx hb dX12_entryNow_137 (by decide) ?_
      refine lv_isub hx hb dX12_entryNow_139 ?_
      refine kiald F V 1 rfl hw.1 dX12_entryNow_140 ?_
      have hw := hw.2
      refine lv_goto (tgt := 145) hx hb dX12_entryNow_141 (by decide) ?_
      exact ret _ _ _ _ _ rfl dX12_entryNow_145 V hw
  · have hw := hw.2 c_82
    refine lv_iload_n hx hb dX12_entryNow_85 rfl (lv_at hl 3 rfl) ?_
    refine lv_iconst (v := 1) hx hb dX12_entryNow_86 (by decide) ?_
    refine lv_isub hx hb dX12_entryNow_87 ?_
    refine lv_aload_n hx hb dX12_entryNow_88 rfl (lv_at hl 1 rfl) ?_
    refine kget F V 8 1 0 rfl rfl iX12_entryNow_X12 fX12_entryNow_7 (by decide) rfl rfl dX12_entryNow_89 ?_
    refine lv_iload_n hx hb dX12_entryNow_92 rfl (lv_at hl 0 rfl) ?_
    refine kiald F V 1 rfl hw.1 dX12_entryNow_93 ?_
    have hw := hw.2
    refine lv_icmp_ge (tgt := 108) hx hb dX12_entryNow_94 (by decide) (fun c_94 => ?_) (fun c_94 => ?_)
    · have hw := hw.1 c_94
      refine lv_iconst (v := (-1)) hx hb dX12_entryNow_108 (by decide) ?_
      refine lv_goto (tgt := 145) hx hb dX12_entryNow_109 (by decide) ?_
      exact ret _ _ _ _ _ rfl dX12_entryNow_145 V hw
    · have hw := hw.2 c_94
      refine lv_aload_n hx hb dX12_entryNow_97 rfl (lv_at hl 1 rfl) ?_
      refine kget F V 8 1 0 rfl rfl iX12_entryNow_X12 fX12_entryNow_7 (by decide) rfl rfl dX12_entryNow_98 ?_
      refine lv_iload_n hx hb dX12_entryNow_101 rfl (lv_at hl 0 rfl) ?_
      refine lv_iload_n hx hb dX12_entryNow_102 rfl (lv_at hl 3 rfl) ?_
      refine lv_iadd hx hb dX12_entryNow_103 ?_
      refine kiald F V 1 rfl hw.1 dX12_entryNow_104 ?_
      have hw := hw.2
      refine lv_goto (tgt := 145) hx hb dX12_entryNow_105 (by decide) ?_
      exact ret _ _ _ _ _ rfl dX12_entryNow_145 V hw
theorem hdX12_entry : yX12_entry.cls = RX12 ∧ yX12_entry.cls ≠ "java/lang/invoke/MethodHandle" ∧ yX12_entry.cls ≠ "java/lang/invoke/VarHandle" ∧ (parseMethodDescriptor yX12_entry.desc).map (fun d => d.parameters.length) = some 2 := by decide +kernel
theorem fX12_entry_31 : Cond.fieldLink RX12 31 RX12 "thrown" "I" ∈ wsX12_entry := by decide +kernel
theorem iX12_entry_X12 : ∀ w ∈ u_ws RX12 TX12 14, w ∈ wsX12_entry := by decide +kernel
def wX12_entry_28 (z : Nat → Int32) (p1 : Int32) (p2 : Int32) (P : Int32 → Int32 → Prop) (s1 : Int32) (thrown : Int32) : Prop := (s1 ≤ 0 → wX12_entryNow z p1 p2 (fun r_45 => P r_45 s1)) ∧ (¬ (s1 ≤ 0) → P 0 s1)
def wX12_entry (z : Nat → Int32) (p1 : Int32) (p2 : Int32) (P : Int32 → Int32 → Prop) (thrown : Int32) : Prop := wX12_isEntry z p1 (fun r_3 => (¬ r_3 = 0 → wX12_within p2 0 15 (fun r_17 => (r_17 = 0 → wX12_entry_28 z p1 p2 P 2 thrown) ∧ (¬ (r_17 = 0) → wX12_entry_28 z p1 p2 P 0 thrown))) ∧ (r_3 = 0 → wX12_entry_28 z p1 p2 P 1 thrown))
set_option maxHeartbeats 4000000 in
set_option maxRecDepth 100000 in
theorem kX12_entry (l : Launch) (g : kT) (a_this : Nat) (a_this_z : Nat) (a_this_saved : Nat) (a_this_text : Nat) (a_this_line : Nat) (a_this_aside : Nat) (a_this_read : Nat) (a_this_fewest : Nat) (thrown : Int32) (z : Nat → Int32) (saves : Int32) (saved : Nat → Int32) (length : Int32) (text : Nat → Int32) (many : Int32) (line : Nat → Int32) (aside : Nat → Int32) (isWord : Int32) (entries : Int32) (rdA : Nat → Int32) (fewest : Nat → Int32) (h : Int64) (p1 : Int32) (p2 : Int32) (P : Int32 → Int32 → Prop) (hw : wX12_entry z p1 p2 P thrown) : Ki1 l g yX12_entry wsX12_entry 5 118 0 0 [.ref a_this, .int p1, .int p2] (gX12 g a_this a_this_z a_this_saved a_this_text a_this_line a_this_aside a_this_read a_this_fewest thrown z saves saved length text many line aside isWord entries rdA fewest h) P (fun thrown => (gX12 g a_this a_this_z a_this_saved a_this_text a_this_line a_this_aside a_this_read a_this_fewest thrown z saves saved length text many line aside isWord entries rdA fewest h)) := by
  refine Ki1.mk (cc := cX12_entry) (nL := 3) (ty := .int) (by decide +kernel) rfl (Nat.le_of_ble_eq_true rfl) ?_
  intro p e s m below meth c A Q ls F hl V ret
  have hx := F.x
  have hb := F.b
  have hl : lv_has ls 3 [(0, .ref a_this), (1, .int p1), (2, .int p2)] := hl
  have B28 :  ∀ {H : Heap} {locs : List Loc} {ls : Array Slot} (s1 : Int32) (thrown : Int32) (V : VW g A s.heap H locs (gX12 g a_this a_this_z a_this_saved a_this_text a_this_line a_this_aside a_this_read a_this_fewest thrown z saves saved length text many line aside isWord entries rdA fewest h)) (hl : lv_has ls 3 [(0, .ref a_this), (1, .int p1), (2, .int p2)]) (hw : wX12_entry_28 z p1 p2 P s1 thrown), W p l e (kR 5 118 0 0) s m ([.ref a_this, .int p1, .int p2] : List Value).toArray below meth c H locs 0 0 Q (F0 m 28 ls [.int s1, .ref a_this]) := by
    intro  H locs ls s1 thrown V hl hw
    refine kput F V 8 0 0 tyX12_ok nmX12 rfl rfl iX12_entry_X12 fX12_entry_31 (by decide) rfl rfl rfl rfl (Nat.le_of_ble_eq_true rfl) dX12_entry_28 (fun H locs V => ?_)
    have V : VW g A s.heap H locs (gX12 g a_this a_this_z a_this_saved a_this_text a_this_line a_this_aside a_this_read a_this_fewest s1 z saves saved length text many line aside isWord entries rdA fewest h) := V
    refine lv_aload_n hx hb dX12_entry_31 rfl (lv_at hl 0 rfl) ?_
    refine kget F V 8 0 0 rfl rfl iX12_entry_X12 fX12_entry_31 (by decide) rfl rfl dX12_entry_32 ?_
    refine lv_if_le (tgt := 42) hx hb dX12_entry_35 (by decide) (fun c_35 => ?_) (fun c_35 => ?_)
    · have hw := hw.1 c_35
      refine lv_aload_n hx hb dX12_entry_42 rfl (lv_at hl 0 rfl) ?_
      refine lv_iload_n hx hb dX12_entry_43 rfl (lv_at hl 1 rfl) ?_
      refine lv_iload_n hx hb dX12_entry_44 rfl (lv_at hl 2 rfl) ?_
      refine kVi0 (rest := []) F hl V [0, 1, 2, 3, 4, 5, 6, 7] [] [0, 1, 2, 3, 4, 5, 6, 7] (gX12 g a_this a_this_z a_this_saved a_this_text a_this_line a_this_aside a_this_read a_this_fewest s1 z saves saved length text many line aside isWord entries rdA fewest h) a_this 8 0 rfl rfl (kX12_entryNow l g a_this a_this_z a_this_saved a_this_text a_this_line a_this_aside a_this_read a_this_fewest s1 z saves saved length text many line aside isWord entries rdA fewest h p1 p2 _ hw) gX12_entry_X12_entryNow rfl 2 rfl hdX12_entryNow rfl rfl (fun _ => rfl) rfl rfl rfl (by decide) ⟨Nat.le_of_ble_eq_true rfl, Nat.le_of_ble_eq_true rfl⟩ ⟨Nat.le_of_ble_eq_true rfl, Nat.le_of_ble_eq_true rfl⟩ (Nat.le_of_ble_eq_true rfl) rfl dX12_entry_45 (fun r_45 H locs hw V => ?_)
      exact ret _ _ _ _ _ _ rfl dX12_entry_48 V hw
    · have hw := hw.2 c_35
      refine lv_iconst (v := 0) hx hb dX12_entry_38 (by decide) ?_
      refine lv_goto (tgt := 48) hx hb dX12_entry_39 (by decide) ?_
      exact ret _ _ _ _ _ _ rfl dX12_entry_48 V hw
  refine lv_aload_n hx hb dX12_entry_0 rfl (lv_at hl 0 rfl) ?_
  refine lv_aload_n hx hb dX12_entry_1 rfl (lv_at hl 0 rfl) ?_
  refine lv_iload_n hx hb dX12_entry_2 rfl (lv_at hl 1 rfl) ?_
  refine kVi0 (rest := [.ref a_this]) F hl V [0, 1, 2, 3, 4, 5, 6, 7] [] [0, 1, 2, 3, 4, 5, 6, 7] (gX12 g a_this a_this_z a_this_saved a_this_text a_this_line a_this_aside a_this_read a_this_fewest thrown z saves saved length text many line aside isWord entries rdA fewest h) a_this 8 0 rfl rfl (kX12_isEntry l g a_this a_this_z a_this_saved a_this_text a_this_line a_this_aside a_this_read a_this_fewest thrown z saves saved length text many line aside isWord entries rdA fewest h p1 _ hw) gX12_entry_X12_isEntry rfl 1 rfl hdX12_isEntry rfl rfl (fun _ => rfl) rfl rfl rfl (by decide) ⟨Nat.le_of_ble_eq_true rfl, Nat.le_of_ble_eq_true rfl⟩ ⟨Nat.le_of_ble_eq_true rfl, Nat.le_of_ble_eq_true rfl⟩ (Nat.le_of_ble_eq_true rfl) rfl dX12_entry_3 (fun r_3 H locs hw V => ?_)
  refine lv_if_ne (tgt := 13) hx hb dX12_entry_6 (by decide) (fun c_6 => ?_) (fun c_6 => ?_)
  · have hw := hw.1 c_6
    refine lv_iload_n hx hb dX12_entry_13 rfl (lv_at hl 2 rfl) ?_
    refine lv_iconst (v := 0) hx hb dX12_entry_14 (by decide) ?_
    refine lv_bipush (v := 15) hx hb dX12_entry_15 (by decide) ?_
    refine kSi0n (rest := [.ref a_this]) F hl V (kX12_within l g p2 0 15 _ hw) gX12_entry_X12_within rfl 3 rfl hdX12_within ⟨Nat.le_of_ble_eq_true rfl, Nat.le_of_ble_eq_true rfl⟩ ⟨Nat.le_of_ble_eq_true rfl, Nat.le_of_ble_eq_true rfl⟩ (Nat.le_of_ble_eq_true rfl) rfl dX12_entry_17 (fun r_17 H locs hw V => ?_)
    refine lv_if_eq (tgt := 27) hx hb dX12_entry_20 (by decide) (fun c_20 => ?_) (fun c_20 => ?_)
    · have hw := hw.1 c_20
      refine lv_iconst (v := 2) hx hb dX12_entry_27 (by decide) ?_
      exact B28  2 thrown V hl hw
    · have hw := hw.2 c_20
      refine lv_iconst (v := 0) hx hb dX12_entry_23 (by decide) ?_
      refine lv_goto (tgt := 28) hx hb dX12_entry_24 (by decide) ?_
      exact B28  0 thrown V hl hw
  · have hw := hw.2 c_6
    refine lv_iconst (v := 1) hx hb dX12_entry_9 (by decide) ?_
    refine lv_goto (tgt := 28) hx hb dX12_entry_10 (by decide) ?_
    exact B28  1 thrown V hl hw
theorem hdX12_letters : yX12_letters.cls = RX12 ∧ yX12_letters.cls ≠ "java/lang/invoke/MethodHandle" ∧ yX12_letters.cls ≠ "java/lang/invoke/VarHandle" ∧ (parseMethodDescriptor yX12_letters.desc).map (fun d => d.parameters.length) = some 0 := by decide +kernel
theorem fX12_letters_7 : Cond.fieldLink RX12 7 RX12 "z" "[I" ∈ wsX12_letters := by decide +kernel
theorem iX12_letters_X12 : ∀ w ∈ u_ws RX12 TX12 14, w ∈ wsX12_letters := by decide +kernel
def wX12_letters_4 (z : Nat → Int32) (P : Int32 → Prop) : Nat → Int32 → Int32 → Prop
  | 0, _, _ => False
  | n + 1, v1, v2 => vp_in 399 1317 ∧ ((z (399 : Int32).toNatClampNeg) ≤ v2 → P v1) ∧ (¬ ((z (399 : Int32).toNatClampNeg) ≤ v2) → wX12_itemAt v2 (fun r_22 => vp_in (r_22 + 2) 1317 ∧ ∀ v1_29 : Int32, v1_29 = (v1 + (z (r_22 + 2).toNatClampNeg)) → (wX12_letters_4 z P n) v1_29 (v2 + 1)))
def wX12_letters (z : Nat → Int32) (P : Int32 → Prop) : Prop := ∃ n_4, wX12_letters_4 z P n_4 0 0
set_option maxHeartbeats 4000000 in
set_option maxRecDepth 100000 in
theorem kX12_letters (l : Launch) (g : kT) (a_this : Nat) (a_this_z : Nat) (a_this_saved : Nat) (a_this_text : Nat) (a_this_line : Nat) (a_this_aside : Nat) (a_this_read : Nat) (a_this_fewest : Nat) (thrown : Int32) (z : Nat → Int32) (saves : Int32) (saved : Nat → Int32) (length : Int32) (text : Nat → Int32) (many : Int32) (line : Nat → Int32) (aside : Nat → Int32) (isWord : Int32) (entries : Int32) (rdA : Nat → Int32) (fewest : Nat → Int32) (h : Int64) (P : Int32 → Prop) (hw : wX12_letters z P) : Ki0 l g yX12_letters wsX12_letters 1 20 0 0 [.ref a_this] (gX12 g a_this a_this_z a_this_saved a_this_text a_this_line a_this_aside a_this_read a_this_fewest thrown z saves saved length text many line aside isWord entries rdA fewest h) P (gX12 g a_this a_this_z a_this_saved a_this_text a_this_line a_this_aside a_this_read a_this_fewest thrown z saves saved length text many line aside isWord entries rdA fewest h) := by
  refine Ki0.mk (cc := cX12_letters) (nL := 3) (ty := .int) (by decide +kernel) rfl (Nat.le_of_ble_eq_true rfl) ?_
  intro p e s m below meth c A Q ls F hl V ret
  have hx := F.x
  have hb := F.b
  have hl : lv_has ls 3 [(0, .ref a_this)] := hl
  have B4 :  ∀ (n : Nat), ∀ {H : Heap} {locs : List Loc} {ls : Array Slot} (v1 : Int32) (v2 : Int32) (V : VW g A s.heap H locs (gX12 g a_this a_this_z a_this_saved a_this_text a_this_line a_this_aside a_this_read a_this_fewest thrown z saves saved length text many line aside isWord entries rdA fewest h)) (hl : lv_has ls 3 [(0, .ref a_this), (1, .int v1), (2, .int v2)]) (hw : wX12_letters_4 z P n v1 v2), W p l e (kR 1 20 0 0) s m ([.ref a_this] : List Value).toArray below meth c H locs 0 0 Q (F0 m 4 ls []) := by
    intro n
    induction n with
    | zero => intro _ _ _ _ _ V hl hw; exact hw.elim
    | succ n ih =>
      intro H locs ls v1 v2 V hl hw
      refine lv_iload_n hx hb dX12_letters_4 rfl (lv_at hl 2 rfl) ?_
      refine lv_aload_n hx hb dX12_letters_5 rfl (lv_at hl 0 rfl) ?_
      refine kget F V 8 1 0 rfl rfl iX12_letters_X12 fX12_letters_7 (by decide) rfl rfl dX12_letters_6 ?_
      refine lv_sipush (v := 399) hx hb dX12_letters_9 (by decide) ?_
      refine kiald F V 1 rfl hw.1 dX12_letters_12 ?_
      have hw := hw.2
      refine lv_icmp_ge (tgt := 36) hx hb dX12_letters_13 (by decide) (fun c_13 => ?_) (fun c_13 => ?_)
      · have hw := hw.1 c_13
        refine lv_iload_n hx hb dX12_letters_36 rfl (lv_at hl 1 rfl) ?_
        exact ret _ _ _ _ _ rfl dX12_letters_37 V hw
      · have hw := hw.2 c_13
        refine lv_iload_n hx hb dX12_letters_16 rfl (lv_at hl 1 rfl) ?_
        refine lv_aload_n hx hb dX12_letters_17 rfl (lv_at hl 0 rfl) ?_
        refine kget F V 8 1 0 rfl rfl iX12_letters_X12 fX12_letters_7 (by decide) rfl rfl dX12_letters_18 ?_
        refine lv_iload_n hx hb dX12_letters_21 rfl (lv_at hl 2 rfl) ?_
        refine kSi0n (rest := [.ref a_this_z, .int v1]) F hl V (kX12_itemAt l g v2 _ hw) gX12_letters_X12_itemAt rfl 1 rfl hdX12_itemAt ⟨Nat.le_of_ble_eq_true rfl, Nat.le_of_ble_eq_true rfl⟩ ⟨Nat.le_of_ble_eq_true rfl, Nat.le_of_ble_eq_true rfl⟩ (Nat.le_of_ble_eq_true rfl) rfl dX12_letters_22 (fun r_22 H locs hw V => ?_)
        refine lv_iconst (v := 2) hx hb dX12_letters_25 (by decide) ?_
        refine lv_iadd hx hb dX12_letters_26 ?_
        refine kiald F V 1 rfl hw.1 dX12_letters_27 ?_
        have hw := hw.2
        refine lv_iadd hx hb dX12_letters_28 ?_
        refine lv_topi (fun v1_29 ev1_29 => ?_)
        have hw := hw v1_29 ev1_29
        refine lv_istore_n (lv' := [(1, .int v1_29), (0, .ref a_this), (2, .int v2)]) hx hb dX12_letters_29 rfl hl (by decide) rfl (fun ls hl => ?_)
        refine lv_iinc (v := v2 + 1) (lv' := [(2, .int (v2 + 1)), (1, .int v1_29), (0, .ref a_this)]) hx hb dX12_letters_30 hl (k := 2) rfl rfl (by decide) rfl (fun ls hl => ?_)
        refine lv_goto (tgt := 4) hx hb dX12_letters_33 (by decide) ?_
        exact ih v1_29 (v2 + 1) V (lv_sub hl [2, 1, 0] rfl) hw
  refine lv_iconst (v := 0) hx hb dX12_letters_0 (by decide) ?_
  refine lv_istore_n (lv' := [(1, .int 0), (0, .ref a_this)]) hx hb dX12_letters_1 rfl hl (by decide) rfl (fun ls hl => ?_)
  refine lv_iconst (v := 0) hx hb dX12_letters_2 (by decide) ?_
  refine lv_istore_n (lv' := [(2, .int 0), (1, .int 0), (0, .ref a_this)]) hx hb dX12_letters_3 rfl hl (by decide) rfl (fun ls hl => ?_)
  obtain ⟨n_4, hw⟩ := hw
  exact B4  n_4 0 0 V (lv_sub hl [2, 1, 0] rfl) hw
theorem hdX12_clashes : yX12_clashes.cls = RX12 ∧ yX12_clashes.cls ≠ "java/lang/invoke/MethodHandle" ∧ yX12_clashes.cls ≠ "java/lang/invoke/VarHandle" ∧ (parseMethodDescriptor yX12_clashes.desc).map (fun d => d.parameters.length) = some 0 := by decide +kernel
theorem fX12_clashes_7 : Cond.fieldLink RX12 7 RX12 "z" "[I" ∈ wsX12_clashes := by decide +kernel
theorem iX12_clashes_X12 : ∀ w ∈ u_ws RX12 TX12 14, w ∈ wsX12_clashes := by decide +kernel
def wX12_clashes_28 (z : Nat → Int32) (K4 : Int32 → Int32 → Prop) (P : Int32 → Prop) (v2 : Int32) (s0 : Int32) (s1 : Int32) : Prop := ∀ v1_29 : Int32, v1_29 = (s0 + s1) → K4 v1_29 (v2 + 1)
def wX12_clashes_4 (z : Nat → Int32) (P : Int32 → Prop) : Nat → Int32 → Int32 → Prop
  | 0, _, _ => False
  | n + 1, v1, v2 => vp_in 0 1317 ∧ ((z (0 : Int32).toNatClampNeg) ≤ v2 → P v1) ∧ (¬ ((z (0 : Int32).toNatClampNeg) ≤ v2) → wX12_clash z v2 (fun r_17 => (r_17 ≤ 0 → wX12_clashes_28 z (wX12_clashes_4 z P n) P v2 v1 0) ∧ (¬ (r_17 ≤ 0) → wX12_clashes_28 z (wX12_clashes_4 z P n) P v2 v1 1)))
def wX12_clashes (z : Nat → Int32) (P : Int32 → Prop) : Prop := ∃ n_4, wX12_clashes_4 z P n_4 0 0
set_option maxHeartbeats 4000000 in
set_option maxRecDepth 100000 in
theorem kX12_clashes (l : Launch) (g : kT) (a_this : Nat) (a_this_z : Nat) (a_this_saved : Nat) (a_this_text : Nat) (a_this_line : Nat) (a_this_aside : Nat) (a_this_read : Nat) (a_this_fewest : Nat) (thrown : Int32) (z : Nat → Int32) (saves : Int32) (saved : Nat → Int32) (length : Int32) (text : Nat → Int32) (many : Int32) (line : Nat → Int32) (aside : Nat → Int32) (isWord : Int32) (entries : Int32) (rdA : Nat → Int32) (fewest : Nat → Int32) (h : Int64) (P : Int32 → Prop) (hw : wX12_clashes z P) : Ki0 l g yX12_clashes wsX12_clashes 4 95 0 0 [.ref a_this] (gX12 g a_this a_this_z a_this_saved a_this_text a_this_line a_this_aside a_this_read a_this_fewest thrown z saves saved length text many line aside isWord entries rdA fewest h) P (gX12 g a_this a_this_z a_this_saved a_this_text a_this_line a_this_aside a_this_read a_this_fewest thrown z saves saved length text many line aside isWord entries rdA fewest h) := by
  refine Ki0.mk (cc := cX12_clashes) (nL := 3) (ty := .int) (by decide +kernel) rfl (Nat.le_of_ble_eq_true rfl) ?_
  intro p e s m below meth c A Q ls F hl V ret
  have hx := F.x
  have hb := F.b
  have hl : lv_has ls 3 [(0, .ref a_this)] := hl
  have B28 : ∀ (K4 : Int32 → Int32 → Prop) (k4 : ∀ {H : Heap} {locs : List Loc} {ls : Array Slot} (v1 : Int32) (v2 : Int32), VW g A s.heap H locs (gX12 g a_this a_this_z a_this_saved a_this_text a_this_line a_this_aside a_this_read a_this_fewest thrown z saves saved length text many line aside isWord entries rdA fewest h) → lv_has ls 3 [(0, .ref a_this), (1, .int v1), (2, .int v2)] → K4 v1 v2 → W p l e (kR 4 95 0 0) s m ([.ref a_this] : List Value).toArray below meth c H locs 0 0 Q (F0 m 4 ls [])), ∀ {H : Heap} {locs : List Loc} {ls : Array Slot} (v2 : Int32) (s0 : Int32) (s1 : Int32) (V : VW g A s.heap H locs (gX12 g a_this a_this_z a_this_saved a_this_text a_this_line a_this_aside a_this_read a_this_fewest thrown z saves saved length text many line aside isWord entries rdA fewest h)) (hl : lv_has ls 3 [(0, .ref a_this), (2, .int v2)]) (hw : wX12_clashes_28 z K4 P v2 s0 s1), W p l e (kR 4 95 0 0) s m ([.ref a_this] : List Value).toArray below meth c H locs 0 0 Q (F0 m 28 ls [.int s1, .int s0]) := by
    intro K4 k4 H locs ls v2 s0 s1 V hl hw
    refine lv_iadd hx hb dX12_clashes_28 ?_
    refine lv_topi (fun v1_29 ev1_29 => ?_)
    have hw := hw v1_29 ev1_29
    refine lv_istore_n (lv' := [(1, .int v1_29), (0, .ref a_this), (2, .int v2)]) hx hb dX12_clashes_29 rfl hl (by decide) rfl (fun ls hl => ?_)
    refine lv_iinc (v := v2 + 1) (lv' := [(2, .int (v2 + 1)), (1, .int v1_29), (0, .ref a_this)]) hx hb dX12_clashes_30 hl (k := 2) rfl rfl (by decide) rfl (fun ls hl => ?_)
    refine lv_goto (tgt := 4) hx hb dX12_clashes_33 (by decide) ?_
    exact k4 v1_29 (v2 + 1) V (lv_sub hl [2, 1, 0] rfl) hw
  have B4 :  ∀ (n : Nat), ∀ {H : Heap} {locs : List Loc} {ls : Array Slot} (v1 : Int32) (v2 : Int32) (V : VW g A s.heap H locs (gX12 g a_this a_this_z a_this_saved a_this_text a_this_line a_this_aside a_this_read a_this_fewest thrown z saves saved length text many line aside isWord entries rdA fewest h)) (hl : lv_has ls 3 [(0, .ref a_this), (1, .int v1), (2, .int v2)]) (hw : wX12_clashes_4 z P n v1 v2), W p l e (kR 4 95 0 0) s m ([.ref a_this] : List Value).toArray below meth c H locs 0 0 Q (F0 m 4 ls []) := by
    intro n
    induction n with
    | zero => intro _ _ _ _ _ V hl hw; exact hw.elim
    | succ n ih =>
      intro H locs ls v1 v2 V hl hw
      refine lv_iload_n hx hb dX12_clashes_4 rfl (lv_at hl 2 rfl) ?_
      refine lv_aload_n hx hb dX12_clashes_5 rfl (lv_at hl 0 rfl) ?_
      refine kget F V 8 1 0 rfl rfl iX12_clashes_X12 fX12_clashes_7 (by decide) rfl rfl dX12_clashes_6 ?_
      refine lv_iconst (v := 0) hx hb dX12_clashes_9 (by decide) ?_
      refine kiald F V 1 rfl hw.1 dX12_clashes_10 ?_
      have hw := hw.2
      refine lv_icmp_ge (tgt := 36) hx hb dX12_clashes_11 (by decide) (fun c_11 => ?_) (fun c_11 => ?_)
      · have hw := hw.1 c_11
        refine lv_iload_n hx hb dX12_clashes_36 rfl (lv_at hl 1 rfl) ?_
        exact ret _ _ _ _ _ rfl dX12_clashes_37 V hw
      · have hw := hw.2 c_11
        refine lv_iload_n hx hb dX12_clashes_14 rfl (lv_at hl 1 rfl) ?_
        refine lv_aload_n hx hb dX12_clashes_15 rfl (lv_at hl 0 rfl) ?_
        refine lv_iload_n hx hb dX12_clashes_16 rfl (lv_at hl 2 rfl) ?_
        refine kVi0 (rest := [.int v1]) F hl V [0, 1, 2, 3, 4, 5, 6, 7] [] [0, 1, 2, 3, 4, 5, 6, 7] (gX12 g a_this a_this_z a_this_saved a_this_text a_this_line a_this_aside a_this_read a_this_fewest thrown z saves saved length text many line aside isWord entries rdA fewest h) a_this 8 0 rfl rfl (kX12_clash l g a_this a_this_z a_this_saved a_this_text a_this_line a_this_aside a_this_read a_this_fewest thrown z saves saved length text many line aside isWord entries rdA fewest h v2 _ hw) gX12_clashes_X12_clash rfl 1 rfl hdX12_clash rfl rfl (fun _ => rfl) rfl rfl rfl (by decide) ⟨Nat.le_of_ble_eq_true rfl, Nat.le_of_ble_eq_true rfl⟩ ⟨Nat.le_of_ble_eq_true rfl, Nat.le_of_ble_eq_true rfl⟩ (Nat.le_of_ble_eq_true rfl) rfl dX12_clashes_17 (fun r_17 H locs hw V => ?_)
        refine lv_if_le (tgt := 27) hx hb dX12_clashes_20 (by decide) (fun c_20 => ?_) (fun c_20 => ?_)
        · have hw := hw.1 c_20
          refine lv_iconst (v := 0) hx hb dX12_clashes_27 (by decide) ?_
          exact B28 (wX12_clashes_4 z P n) ih v2 v1 0 V (lv_sub hl [0, 2] rfl) hw
        · have hw := hw.2 c_20
          refine lv_iconst (v := 1) hx hb dX12_clashes_23 (by decide) ?_
          refine lv_goto (tgt := 28) hx hb dX12_clashes_24 (by decide) ?_
          exact B28 (wX12_clashes_4 z P n) ih v2 v1 1 V (lv_sub hl [0, 2] rfl) hw
  refine lv_iconst (v := 0) hx hb dX12_clashes_0 (by decide) ?_
  refine lv_istore_n (lv' := [(1, .int 0), (0, .ref a_this)]) hx hb dX12_clashes_1 rfl hl (by decide) rfl (fun ls hl => ?_)
  refine lv_iconst (v := 0) hx hb dX12_clashes_2 (by decide) ?_
  refine lv_istore_n (lv' := [(2, .int 0), (1, .int 0), (0, .ref a_this)]) hx hb dX12_clashes_3 rfl hl (by decide) rfl (fun ls hl => ?_)
  obtain ⟨n_4, hw⟩ := hw
  exact B4  n_4 0 0 V (lv_sub hl [2, 1, 0] rfl) hw
theorem hdX12_counted : yX12_counted.cls = RX12 ∧ yX12_counted.cls ≠ "java/lang/invoke/MethodHandle" ∧ yX12_counted.cls ≠ "java/lang/invoke/VarHandle" ∧ (parseMethodDescriptor yX12_counted.desc).map (fun d => d.parameters.length) = some 1 := by decide +kernel
theorem fX12_counted_7 : Cond.fieldLink RX12 7 RX12 "z" "[I" ∈ wsX12_counted := by decide +kernel
theorem iX12_counted_X12 : ∀ w ∈ u_ws RX12 TX12 14, w ∈ wsX12_counted := by decide +kernel
theorem fX12_counted_80 : Cond.fieldLink RX12 80 RX12 "saves" "I" ∈ wsX12_counted := by decide +kernel
def wX12_counted (z : Nat → Int32) (saves : Int32) (p1 : Int32) (P : Int32 → Prop) : Prop := (p1 = 0 → vp_in 337 1317 ∧ P (z (337 : Int32).toNatClampNeg)) ∧ (p1 = 1 → vp_in 399 1317 ∧ P (z (399 : Int32).toNatClampNeg)) ∧ (p1 = 2 → vp_in 1315 1317 ∧ P (z (1315 : Int32).toNatClampNeg)) ∧ (p1 = 3 → wX12_openStrokes z (fun r_80 => P r_80)) ∧ (p1 = 4 → vp_in 0 1317 ∧ P (z (0 : Int32).toNatClampNeg)) ∧ (p1 = 5 → vp_in 1316 1317 ∧ P (z (1316 : Int32).toNatClampNeg)) ∧ (p1 = 6 → wX12_letters z (fun r_101 => P r_101)) ∧ (p1 = 7 → wX12_madeBy z (-1) (fun r_107 => P r_107)) ∧ (p1 = 8 → wX12_clashes z (fun r_112 => P r_112)) ∧ (¬ p1 = 0 → ¬ p1 = 1 → ¬ p1 = 2 → ¬ p1 = 3 → ¬ p1 = 4 → ¬ p1 = 5 → ¬ p1 = 6 → ¬ p1 = 7 → ¬ p1 = 8 → P saves)
set_option maxHeartbeats 4000000 in
set_option maxRecDepth 100000 in
theorem kX12_counted (l : Launch) (g : kT) (a_this : Nat) (a_this_z : Nat) (a_this_saved : Nat) (a_this_text : Nat) (a_this_line : Nat) (a_this_aside : Nat) (a_this_read : Nat) (a_this_fewest : Nat) (thrown : Int32) (z : Nat → Int32) (saves : Int32) (saved : Nat → Int32) (length : Int32) (text : Nat → Int32) (many : Int32) (line : Nat → Int32) (aside : Nat → Int32) (isWord : Int32) (entries : Int32) (rdA : Nat → Int32) (fewest : Nat → Int32) (h : Int64) (p1 : Int32) (P : Int32 → Prop) (hw : wX12_counted z saves p1 P) : Ki0 l g yX12_counted wsX12_counted 5 117 0 0 [.ref a_this, .int p1] (gX12 g a_this a_this_z a_this_saved a_this_text a_this_line a_this_aside a_this_read a_this_fewest thrown z saves saved length text many line aside isWord entries rdA fewest h) P (gX12 g a_this a_this_z a_this_saved a_this_text a_this_line a_this_aside a_this_read a_this_fewest thrown z saves saved length text many line aside isWord entries rdA fewest h) := by
  refine Ki0.mk (cc := cX12_counted) (nL := 2) (ty := .int) (by decide +kernel) rfl (Nat.le_of_ble_eq_true rfl) ?_
  intro p e s m below meth c A Q ls F hl V ret
  have hx := F.x
  have hb := F.b
  have hl : lv_has ls 2 [(0, .ref a_this), (1, .int p1)] := hl
  refine lv_iload_n hx hb dX12_counted_0 rfl (lv_at hl 1 rfl) ?_
  by_cases c_1_0 : p1 = 0
  · have hw := hw.1 c_1_0
    refine lv_tableIn (tgt := 52) hx hb dX12_counted_1 (by rw [c_1_0]; decide) (by rw [c_1_0]; decide) (by rw [c_1_0]; rfl) (by decide) ?_
    refine lv_aload_n hx hb dX12_counted_52 rfl (lv_at hl 0 rfl) ?_
    refine kget F V 8 1 0 rfl rfl iX12_counted_X12 fX12_counted_7 (by decide) rfl rfl dX12_counted_53 ?_
    refine lv_sipush (v := 337) hx hb dX12_counted_56 (by decide) ?_
    refine kiald F V 1 rfl hw.1 dX12_counted_59 ?_
    have hw := hw.2
    exact ret _ _ _ _ _ rfl dX12_counted_60 V hw
  by_cases c_1_1 : p1 = 1
  · have hw := hw.2.1 c_1_1
    refine lv_tableIn (tgt := 61) hx hb dX12_counted_1 (by rw [c_1_1]; decide) (by rw [c_1_1]; decide) (by rw [c_1_1]; rfl) (by decide) ?_
    refine lv_aload_n hx hb dX12_counted_61 rfl (lv_at hl 0 rfl) ?_
    refine kget F V 8 1 0 rfl rfl iX12_counted_X12 fX12_counted_7 (by decide) rfl rfl dX12_counted_62 ?_
    refine lv_sipush (v := 399) hx hb dX12_counted_65 (by decide) ?_
    refine kiald F V 1 rfl hw.1 dX12_counted_68 ?_
    have hw := hw.2
    exact ret _ _ _ _ _ rfl dX12_counted_69 V hw
  by_cases c_1_2 : p1 = 2
  · have hw := hw.2.2.1 c_1_2
    refine lv_tableIn (tgt := 70) hx hb dX12_counted_1 (by rw [c_1_2]; decide) (by rw [c_1_2]; decide) (by rw [c_1_2]; rfl) (by decide) ?_
    refine lv_aload_n hx hb dX12_counted_70 rfl (lv_at hl 0 rfl) ?_
    refine kget F V 8 1 0 rfl rfl iX12_counted_X12 fX12_counted_7 (by decide) rfl rfl dX12_counted_71 ?_
    refine lv_sipush (v := 1315) hx hb dX12_counted_74 (by decide) ?_
    refine kiald F V 1 rfl hw.1 dX12_counted_77 ?_
    have hw := hw.2
    exact ret _ _ _ _ _ rfl dX12_counted_78 V hw
  by_cases c_1_3 : p1 = 3
  · have hw := hw.2.2.2.1 c_1_3
    refine lv_tableIn (tgt := 79) hx hb dX12_counted_1 (by rw [c_1_3]; decide) (by rw [c_1_3]; decide) (by rw [c_1_3]; rfl) (by decide) ?_
    refine lv_aload_n hx hb dX12_counted_79 rfl (lv_at hl 0 rfl) ?_
    refine kVi0 (rest := []) F hl V [0, 1, 2, 3, 4, 5, 6, 7] [] [0, 1, 2, 3, 4, 5, 6, 7] (gX12 g a_this a_this_z a_this_saved a_this_text a_this_line a_this_aside a_this_read a_this_fewest thrown z saves saved length text many line aside isWord entries rdA fewest h) a_this 8 0 rfl rfl (kX12_openStrokes l g a_this a_this_z a_this_saved a_this_text a_this_line a_this_aside a_this_read a_this_fewest thrown z saves saved length text many line aside isWord entries rdA fewest h _ hw) gX12_counted_X12_openStrokes rfl 0 rfl hdX12_openStrokes rfl rfl (fun _ => rfl) rfl rfl rfl (by decide) ⟨Nat.le_of_ble_eq_true rfl, Nat.le_of_ble_eq_true rfl⟩ ⟨Nat.le_of_ble_eq_true rfl, Nat.le_of_ble_eq_true rfl⟩ (Nat.le_of_ble_eq_true rfl) rfl dX12_counted_80 (fun r_80 H locs hw V => ?_)
    exact ret _ _ _ _ _ rfl dX12_counted_83 V hw
  by_cases c_1_4 : p1 = 4
  · have hw := hw.2.2.2.2.1 c_1_4
    refine lv_tableIn (tgt := 84) hx hb dX12_counted_1 (by rw [c_1_4]; decide) (by rw [c_1_4]; decide) (by rw [c_1_4]; rfl) (by decide) ?_
    refine lv_aload_n hx hb dX12_counted_84 rfl (lv_at hl 0 rfl) ?_
    refine kget F V 8 1 0 rfl rfl iX12_counted_X12 fX12_counted_7 (by decide) rfl rfl dX12_counted_85 ?_
    refine lv_iconst (v := 0) hx hb dX12_counted_88 (by decide) ?_
    refine kiald F V 1 rfl hw.1 dX12_counted_89 ?_
    have hw := hw.2
    exact ret _ _ _ _ _ rfl dX12_counted_90 V hw
  by_cases c_1_5 : p1 = 5
  · have hw := hw.2.2.2.2.2.1 c_1_5
    refine lv_tableIn (tgt := 91) hx hb dX12_counted_1 (by rw [c_1_5]; decide) (by rw [c_1_5]; decide) (by rw [c_1_5]; rfl) (by decide) ?_
    refine lv_aload_n hx hb dX12_counted_91 rfl (lv_at hl 0 rfl) ?_
    refine kget F V 8 1 0 rfl rfl iX12_counted_X12 fX12_counted_7 (by decide) rfl rfl dX12_counted_92 ?_
    refine lv_sipush (v := 1316) hx hb dX12_counted_95 (by decide) ?_
    refine kiald F V 1 rfl hw.1 dX12_counted_98 ?_
    have hw := hw.2
    exact ret _ _ _ _ _ rfl dX12_counted_99 V hw
  by_cases c_1_6 : p1 = 6
  · have hw := hw.2.2.2.2.2.2.1 c_1_6
    refine lv_tableIn (tgt := 100) hx hb dX12_counted_1 (by rw [c_1_6]; decide) (by rw [c_1_6]; decide) (by rw [c_1_6]; rfl) (by decide) ?_
    refine lv_aload_n hx hb dX12_counted_100 rfl (lv_at hl 0 rfl) ?_
    refine kVi0 (rest := []) F hl V [0, 1, 2, 3, 4, 5, 6, 7] [] [0, 1, 2, 3, 4, 5, 6, 7] (gX12 g a_this a_this_z a_this_saved a_this_text a_this_line a_this_aside a_this_read a_this_fewest thrown z saves saved length text many line aside isWord entries rdA fewest h) a_this 8 0 rfl rfl (kX12_letters l g a_this a_this_z a_this_saved a_this_text a_this_line a_this_aside a_this_read a_this_fewest thrown z saves saved length text many line aside isWord entries rdA fewest h _ hw) gX12_counted_X12_letters rfl 0 rfl hdX12_letters rfl rfl (fun _ => rfl) rfl rfl rfl (by decide) ⟨Nat.le_of_ble_eq_true rfl, Nat.le_of_ble_eq_true rfl⟩ ⟨Nat.le_of_ble_eq_true rfl, Nat.le_of_ble_eq_true rfl⟩ (Nat.le_of_ble_eq_true rfl) rfl dX12_counted_101 (fun r_101 H locs hw V => ?_)
    exact ret _ _ _ _ _ rfl dX12_counted_104 V hw
  by_cases c_1_7 : p1 = 7
  · have hw := hw.2.2.2.2.2.2.2.1 c_1_7
    refine lv_tableIn (tgt := 105) hx hb dX12_counted_1 (by rw [c_1_7]; decide) (by rw [c_1_7]; decide) (by rw [c_1_7]; rfl) (by decide) ?_
    refine lv_aload_n hx hb dX12_counted_105 rfl (lv_at hl 0 rfl) ?_
    refine lv_iconst (v := (-1)) hx hb dX12_counted_106 (by decide) ?_
    refine kVi0 (rest := []) F hl V [0, 1, 2, 3, 4, 5, 6, 7] [] [0, 1, 2, 3, 4, 5, 6, 7] (gX12 g a_this a_this_z a_this_saved a_this_text a_this_line a_this_aside a_this_read a_this_fewest thrown z saves saved length text many line aside isWord entries rdA fewest h) a_this 8 0 rfl rfl (kX12_madeBy l g a_this a_this_z a_this_saved a_this_text a_this_line a_this_aside a_this_read a_this_fewest thrown z saves saved length text many line aside isWord entries rdA fewest h (-1) _ hw) gX12_counted_X12_madeBy rfl 1 rfl hdX12_madeBy rfl rfl (fun _ => rfl) rfl rfl rfl (by decide) ⟨Nat.le_of_ble_eq_true rfl, Nat.le_of_ble_eq_true rfl⟩ ⟨Nat.le_of_ble_eq_true rfl, Nat.le_of_ble_eq_true rfl⟩ (Nat.le_of_ble_eq_true rfl) rfl dX12_counted_107 (fun r_107 H locs hw V => ?_)
    exact ret _ _ _ _ _ rfl dX12_counted_110 V hw
  by_cases c_1_8 : p1 = 8
  · have hw := hw.2.2.2.2.2.2.2.2.1 c_1_8
    refine lv_tableIn (tgt := 111) hx hb dX12_counted_1 (by rw [c_1_8]; decide) (by rw [c_1_8]; decide) (by rw [c_1_8]; rfl) (by decide) ?_
    refine lv_aload_n hx hb dX12_counted_111 rfl (lv_at hl 0 rfl) ?_
    refine kVi0 (rest := []) F hl V [0, 1, 2, 3, 4, 5, 6, 7] [] [0, 1, 2, 3, 4, 5, 6, 7] (gX12 g a_this a_this_z a_this_saved a_this_text a_this_line a_this_aside a_this_read a_this_fewest thrown z saves saved length text many line aside isWord entries rdA fewest h) a_this 8 0 rfl rfl (kX12_clashes l g a_this a_this_z a_this_saved a_this_text a_this_line a_this_aside a_this_read a_this_fewest thrown z saves saved length text many line aside isWord entries rdA fewest h _ hw) gX12_counted_X12_clashes rfl 0 rfl hdX12_clashes rfl rfl (fun _ => rfl) rfl rfl rfl (by decide) ⟨Nat.le_of_ble_eq_true rfl, Nat.le_of_ble_eq_true rfl⟩ ⟨Nat.le_of_ble_eq_true rfl, Nat.le_of_ble_eq_true rfl⟩ (Nat.le_of_ble_eq_true rfl) rfl dX12_counted_112 (fun r_112 H locs hw V => ?_)
    exact ret _ _ _ _ _ rfl dX12_counted_115 V hw
  have hw := hw.2.2.2.2.2.2.2.2.2 c_1_0 c_1_1 c_1_2 c_1_3 c_1_4 c_1_5 c_1_6 c_1_7 c_1_8
  refine lv_tableOut (tgt := 116) hx hb dX12_counted_1 (by have i_0 : ¬ (p1).toInt = 0 := fun q => c_1_0 (Int32.toInt_inj.mp (by rw [q]; rfl)); have i_1 : ¬ (p1).toInt = 1 := fun q => c_1_1 (Int32.toInt_inj.mp (by rw [q]; rfl)); have i_2 : ¬ (p1).toInt = 2 := fun q => c_1_2 (Int32.toInt_inj.mp (by rw [q]; rfl)); have i_3 : ¬ (p1).toInt = 3 := fun q => c_1_3 (Int32.toInt_inj.mp (by rw [q]; rfl)); have i_4 : ¬ (p1).toInt = 4 := fun q => c_1_4 (Int32.toInt_inj.mp (by rw [q]; rfl)); have i_5 : ¬ (p1).toInt = 5 := fun q => c_1_5 (Int32.toInt_inj.mp (by rw [q]; rfl)); have i_6 : ¬ (p1).toInt = 6 := fun q => c_1_6 (Int32.toInt_inj.mp (by rw [q]; rfl)); have i_7 : ¬ (p1).toInt = 7 := fun q => c_1_7 (Int32.toInt_inj.mp (by rw [q]; rfl)); have i_8 : ¬ (p1).toInt = 8 := fun q => c_1_8 (Int32.toInt_inj.mp (by rw [q]; rfl)); omega) (by decide) ?_
  refine lv_aload_n hx hb dX12_counted_116 rfl (lv_at hl 0 rfl) ?_
  refine kget F V 8 2 0 rfl rfl iX12_counted_X12 fX12_counted_80 (by decide) rfl rfl dX12_counted_117 ?_
  exact ret _ _ _ _ _ rfl dX12_counted_120 V hw
theorem hdX12_count : yX12_count.cls = RX12 ∧ yX12_count.cls ≠ "java/lang/invoke/MethodHandle" ∧ yX12_count.cls ≠ "java/lang/invoke/VarHandle" ∧ (parseMethodDescriptor yX12_count.desc).map (fun d => d.parameters.length) = some 1 := by decide +kernel
theorem fX12_count_31 : Cond.fieldLink RX12 31 RX12 "thrown" "I" ∈ wsX12_count := by decide +kernel
theorem iX12_count_X12 : ∀ w ∈ u_ws RX12 TX12 14, w ∈ wsX12_count := by decide +kernel
def wX12_count_16 (z : Nat → Int32) (saves : Int32) (p1 : Int32) (P : Int32 → Int32 → Prop) (s1 : Int32) (thrown : Int32) : Prop := (s1 ≤ 0 → wX12_counted z saves p1 (fun r_32 => P r_32 s1)) ∧ (¬ (s1 ≤ 0) → P 0 s1)
def wX12_count (z : Nat → Int32) (saves : Int32) (p1 : Int32) (P : Int32 → Int32 → Prop) (thrown : Int32) : Prop := wX12_within p1 0 9 (fun r_5 => (r_5 = 0 → wX12_count_16 z saves p1 P 1 thrown) ∧ (¬ (r_5 = 0) → wX12_count_16 z saves p1 P 0 thrown))
set_option maxHeartbeats 4000000 in
set_option maxRecDepth 100000 in
theorem kX12_count (l : Launch) (g : kT) (a_this : Nat) (a_this_z : Nat) (a_this_saved : Nat) (a_this_text : Nat) (a_this_line : Nat) (a_this_aside : Nat) (a_this_read : Nat) (a_this_fewest : Nat) (thrown : Int32) (z : Nat → Int32) (saves : Int32) (saved : Nat → Int32) (length : Int32) (text : Nat → Int32) (many : Int32) (line : Nat → Int32) (aside : Nat → Int32) (isWord : Int32) (entries : Int32) (rdA : Nat → Int32) (fewest : Nat → Int32) (h : Int64) (p1 : Int32) (P : Int32 → Int32 → Prop) (hw : wX12_count z saves p1 P thrown) : Ki1 l g yX12_count wsX12_count 6 138 0 0 [.ref a_this, .int p1] (gX12 g a_this a_this_z a_this_saved a_this_text a_this_line a_this_aside a_this_read a_this_fewest thrown z saves saved length text many line aside isWord entries rdA fewest h) P (fun thrown => (gX12 g a_this a_this_z a_this_saved a_this_text a_this_line a_this_aside a_this_read a_this_fewest thrown z saves saved length text many line aside isWord entries rdA fewest h)) := by
  refine Ki1.mk (cc := cX12_count) (nL := 2) (ty := .int) (by decide +kernel) rfl (Nat.le_of_ble_eq_true rfl) ?_
  intro p e s m below meth c A Q ls F hl V ret
  have hx := F.x
  have hb := F.b
  have hl : lv_has ls 2 [(0, .ref a_this), (1, .int p1)] := hl
  have B16 :  ∀ {H : Heap} {locs : List Loc} {ls : Array Slot} (s1 : Int32) (thrown : Int32) (V : VW g A s.heap H locs (gX12 g a_this a_this_z a_this_saved a_this_text a_this_line a_this_aside a_this_read a_this_fewest thrown z saves saved length text many line aside isWord entries rdA fewest h)) (hl : lv_has ls 2 [(0, .ref a_this), (1, .int p1)]) (hw : wX12_count_16 z saves p1 P s1 thrown), W p l e (kR 6 138 0 0) s m ([.ref a_this, .int p1] : List Value).toArray below meth c H locs 0 0 Q (F0 m 16 ls [.int s1, .ref a_this]) := by
    intro  H locs ls s1 thrown V hl hw
    refine kput F V 8 0 0 tyX12_ok nmX12 rfl rfl iX12_count_X12 fX12_count_31 (by decide) rfl rfl rfl rfl (Nat.le_of_ble_eq_true rfl) dX12_count_16 (fun H locs V => ?_)
    have V : VW g A s.heap H locs (gX12 g a_this a_this_z a_this_saved a_this_text a_this_line a_this_aside a_this_read a_this_fewest s1 z saves saved length text many line aside isWord entries rdA fewest h) := V
    refine lv_aload_n hx hb dX12_count_19 rfl (lv_at hl 0 rfl) ?_
    refine kget F V 8 0 0 rfl rfl iX12_count_X12 fX12_count_31 (by decide) rfl rfl dX12_count_20 ?_
    refine lv_if_le (tgt := 30) hx hb dX12_count_23 (by decide) (fun c_23 => ?_) (fun c_23 => ?_)
    · have hw := hw.1 c_23
      refine lv_aload_n hx hb dX12_count_30 rfl (lv_at hl 0 rfl) ?_
      refine lv_iload_n hx hb dX12_count_31 rfl (lv_at hl 1 rfl) ?_
      refine kVi0 (rest := []) F hl V [0, 1, 2, 3, 4, 5, 6, 7] [] [0, 1, 2, 3, 4, 5, 6, 7] (gX12 g a_this a_this_z a_this_saved a_this_text a_this_line a_this_aside a_this_read a_this_fewest s1 z saves saved length text many line aside isWord entries rdA fewest h) a_this 8 0 rfl rfl (kX12_counted l g a_this a_this_z a_this_saved a_this_text a_this_line a_this_aside a_this_read a_this_fewest s1 z saves saved length text many line aside isWord entries rdA fewest h p1 _ hw) gX12_count_X12_counted rfl 1 rfl hdX12_counted rfl rfl (fun _ => rfl) rfl rfl rfl (by decide) ⟨Nat.le_of_ble_eq_true rfl, Nat.le_of_ble_eq_true rfl⟩ ⟨Nat.le_of_ble_eq_true rfl, Nat.le_of_ble_eq_true rfl⟩ (Nat.le_of_ble_eq_true rfl) rfl dX12_count_32 (fun r_32 H locs hw V => ?_)
      exact ret _ _ _ _ _ _ rfl dX12_count_35 V hw
    · have hw := hw.2 c_23
      refine lv_iconst (v := 0) hx hb dX12_count_26 (by decide) ?_
      refine lv_goto (tgt := 35) hx hb dX12_count_27 (by decide) ?_
      exact ret _ _ _ _ _ _ rfl dX12_count_35 V hw
  refine lv_aload_n hx hb dX12_count_0 rfl (lv_at hl 0 rfl) ?_
  refine lv_iload_n hx hb dX12_count_1 rfl (lv_at hl 1 rfl) ?_
  refine lv_iconst (v := 0) hx hb dX12_count_2 (by decide) ?_
  refine lv_bipush (v := 9) hx hb dX12_count_3 (by decide) ?_
  refine kSi0n (rest := [.ref a_this]) F hl V (kX12_within l g p1 0 9 _ hw) gX12_count_X12_within rfl 3 rfl hdX12_within ⟨Nat.le_of_ble_eq_true rfl, Nat.le_of_ble_eq_true rfl⟩ ⟨Nat.le_of_ble_eq_true rfl, Nat.le_of_ble_eq_true rfl⟩ (Nat.le_of_ble_eq_true rfl) rfl dX12_count_5 (fun r_5 H locs hw V => ?_)
  refine lv_if_eq (tgt := 15) hx hb dX12_count_8 (by decide) (fun c_8 => ?_) (fun c_8 => ?_)
  · have hw := hw.1 c_8
    refine lv_iconst (v := 1) hx hb dX12_count_15 (by decide) ?_
    exact B16  1 thrown V hl hw
  · have hw := hw.2 c_8
    refine lv_iconst (v := 0) hx hb dX12_count_11 (by decide) ?_
    refine lv_goto (tgt := 16) hx hb dX12_count_12 (by decide) ?_
    exact B16  0 thrown V hl hw
theorem hdX12_strokeAnswer : yX12_strokeAnswer.cls = RX12 ∧ yX12_strokeAnswer.cls ≠ "java/lang/invoke/MethodHandle" ∧ yX12_strokeAnswer.cls ≠ "java/lang/invoke/VarHandle" ∧ (parseMethodDescriptor yX12_strokeAnswer.desc).map (fun d => d.parameters.length) = some 1 := by decide +kernel
theorem fX12_strokeAnswer_7 : Cond.fieldLink RX12 7 RX12 "z" "[I" ∈ wsX12_strokeAnswer := by decide +kernel
theorem iX12_strokeAnswer_X12 : ∀ w ∈ u_ws RX12 TX12 14, w ∈ wsX12_strokeAnswer := by decide +kernel
def wX12_strokeAnswer (z : Nat → Int32) (p1 : Int32) (P : Int32 → Prop) : Prop := (¬ p1 = 0 → (¬ p1 = 1 → (¬ p1 = 2 → vp_in 399 1317 ∧ wX12_itemAt ((z (399 : Int32).toNatClampNeg) - 1) (fun r_57 => vp_in r_57 1317 ∧ P (z r_57.toNatClampNeg))) ∧ (p1 = 2 → wX12_letters z (fun r_37 => P r_37))) ∧ (p1 = 1 → vp_in 1315 1317 ∧ P (z (1315 : Int32).toNatClampNeg))) ∧ (p1 = 0 → vp_in 399 1317 ∧ P (z (399 : Int32).toNatClampNeg))
set_option maxHeartbeats 4000000 in
set_option maxRecDepth 100000 in
theorem kX12_strokeAnswer (l : Launch) (g : kT) (a_this : Nat) (a_this_z : Nat) (a_this_saved : Nat) (a_this_text : Nat) (a_this_line : Nat) (a_this_aside : Nat) (a_this_read : Nat) (a_this_fewest : Nat) (thrown : Int32) (z : Nat → Int32) (saves : Int32) (saved : Nat → Int32) (length : Int32) (text : Nat → Int32) (many : Int32) (line : Nat → Int32) (aside : Nat → Int32) (isWord : Int32) (entries : Int32) (rdA : Nat → Int32) (fewest : Nat → Int32) (h : Int64) (p1 : Int32) (P : Int32 → Prop) (hw : wX12_strokeAnswer z p1 P) : Ki0 l g yX12_strokeAnswer wsX12_strokeAnswer 2 42 0 0 [.ref a_this, .int p1] (gX12 g a_this a_this_z a_this_saved a_this_text a_this_line a_this_aside a_this_read a_this_fewest thrown z saves saved length text many line aside isWord entries rdA fewest h) P (gX12 g a_this a_this_z a_this_saved a_this_text a_this_line a_this_aside a_this_read a_this_fewest thrown z saves saved length text many line aside isWord entries rdA fewest h) := by
  refine Ki0.mk (cc := cX12_strokeAnswer) (nL := 2) (ty := .int) (by decide +kernel) rfl (Nat.le_of_ble_eq_true rfl) ?_
  intro p e s m below meth c A Q ls F hl V ret
  have hx := F.x
  have hb := F.b
  have hl : lv_has ls 2 [(0, .ref a_this), (1, .int p1)] := hl
  refine lv_iload_n hx hb dX12_strokeAnswer_0 rfl (lv_at hl 1 rfl) ?_
  refine lv_if_ne (tgt := 15) hx hb dX12_strokeAnswer_1 (by decide) (fun c_1 => ?_) (fun c_1 => ?_)
  · have hw := hw.1 c_1
    refine lv_iload_n hx hb dX12_strokeAnswer_15 rfl (lv_at hl 1 rfl) ?_
    refine lv_iconst (v := 1) hx hb dX12_strokeAnswer_16 (by decide) ?_
    refine lv_icmp_ne (tgt := 31) hx hb dX12_strokeAnswer_17 (by decide) (fun c_17 => ?_) (fun c_17 => ?_)
    · have hw := hw.1 c_17
      refine lv_iload_n hx hb dX12_strokeAnswer_31 rfl (lv_at hl 1 rfl) ?_
      refine lv_iconst (v := 2) hx hb dX12_strokeAnswer_32 (by decide) ?_
      refine lv_icmp_ne (tgt := 43) hx hb dX12_strokeAnswer_33 (by decide) (fun c_33 => ?_) (fun c_33 => ?_)
      · have hw := hw.1 c_33
        refine lv_aload_n hx hb dX12_strokeAnswer_43 rfl (lv_at hl 0 rfl) ?_
        refine kget F V 8 1 0 rfl rfl iX12_strokeAnswer_X12 fX12_strokeAnswer_7 (by decide) rfl rfl dX12_strokeAnswer_44 ?_
        refine lv_aload_n hx hb dX12_strokeAnswer_47 rfl (lv_at hl 0 rfl) ?_
        refine kget F V 8 1 0 rfl rfl iX12_strokeAnswer_X12 fX12_strokeAnswer_7 (by decide) rfl rfl dX12_strokeAnswer_48 ?_
        refine lv_sipush (v := 399) hx hb dX12_strokeAnswer_51 (by decide) ?_
        refine kiald F V 1 rfl hw.1 dX12_strokeAnswer_54 ?_
        have hw := hw.2
        refine lv_iconst (v := 1) hx hb dX12_strokeAnswer_55 (by decide) ?_
        refine lv_isub hx hb dX12_strokeAnswer_56 ?_
        refine kSi0n (rest := [.ref a_this_z]) F hl V (kX12_itemAt l g ((z (399 : Int32).toNatClampNeg) - 1) _ hw) gX12_strokeAnswer_X12_itemAt rfl 1 rfl hdX12_itemAt ⟨Nat.le_of_ble_eq_true rfl, Nat.le_of_ble_eq_true rfl⟩ ⟨Nat.le_of_ble_eq_true rfl, Nat.le_of_ble_eq_true rfl⟩ (Nat.le_of_ble_eq_true rfl) rfl dX12_strokeAnswer_57 (fun r_57 H locs hw V => ?_)
        refine kiald F V 1 rfl hw.1 dX12_strokeAnswer_60 ?_
        have hw := hw.2
        exact ret _ _ _ _ _ rfl dX12_strokeAnswer_61 V hw
      · have hw := hw.2 c_33
        refine lv_aload_n hx hb dX12_strokeAnswer_36 rfl (lv_at hl 0 rfl) ?_
        refine kVi0 (rest := []) F hl V [0, 1, 2, 3, 4, 5, 6, 7] [] [0, 1, 2, 3, 4, 5, 6, 7] (gX12 g a_this a_this_z a_this_saved a_this_text a_this_line a_this_aside a_this_read a_this_fewest thrown z saves saved length text many line aside isWord entries rdA fewest h) a_this 8 0 rfl rfl (kX12_letters l g a_this a_this_z a_this_saved a_this_text a_this_line a_this_aside a_this_read a_this_fewest thrown z saves saved length text many line aside isWord entries rdA fewest h _ hw) gX12_strokeAnswer_X12_letters rfl 0 rfl hdX12_letters rfl rfl (fun _ => rfl) rfl rfl rfl (by decide) ⟨Nat.le_of_ble_eq_true rfl, Nat.le_of_ble_eq_true rfl⟩ ⟨Nat.le_of_ble_eq_true rfl, Nat.le_of_ble_eq_true rfl⟩ (Nat.le_of_ble_eq_true rfl) rfl dX12_strokeAnswer_37 (fun r_37 H locs hw V => ?_)
        refine lv_goto (tgt := 61) hx hb dX12_strokeAnswer_40 (by decide) ?_
        exact ret _ _ _ _ _ rfl dX12_strokeAnswer_61 V hw
    · have hw := hw.2 c_17
      refine lv_aload_n hx hb dX12_strokeAnswer_20 rfl (lv_at hl 0 rfl) ?_
      refine kget F V 8 1 0 rfl rfl iX12_strokeAnswer_X12 fX12_strokeAnswer_7 (by decide) rfl rfl dX12_strokeAnswer_21 ?_
      refine lv_sipush (v := 1315) hx hb dX12_strokeAnswer_24 (by decide) ?_
      refine kiald F V 1 rfl hw.1 dX12_strokeAnswer_27 ?_
      have hw := hw.2
      refine lv_goto (tgt := 61) hx hb dX12_strokeAnswer_28 (by decide) ?_
      exact ret _ _ _ _ _ rfl dX12_strokeAnswer_61 V hw
  · have hw := hw.2 c_1
    refine lv_aload_n hx hb dX12_strokeAnswer_4 rfl (lv_at hl 0 rfl) ?_
    refine kget F V 8 1 0 rfl rfl iX12_strokeAnswer_X12 fX12_strokeAnswer_7 (by decide) rfl rfl dX12_strokeAnswer_5 ?_
    refine lv_sipush (v := 399) hx hb dX12_strokeAnswer_8 (by decide) ?_
    refine kiald F V 1 rfl hw.1 dX12_strokeAnswer_11 ?_
    have hw := hw.2
    refine lv_goto (tgt := 61) hx hb dX12_strokeAnswer_12 (by decide) ?_
    exact ret _ _ _ _ _ rfl dX12_strokeAnswer_61 V hw
theorem hdX12_ifStroke : yX12_ifStroke.cls = RX12 ∧ yX12_ifStroke.cls ≠ "java/lang/invoke/MethodHandle" ∧ yX12_ifStroke.cls ≠ "java/lang/invoke/VarHandle" ∧ (parseMethodDescriptor yX12_ifStroke.desc).map (fun d => d.parameters.length) = some 2 := by decide +kernel
theorem fX12_ifStroke_31 : Cond.fieldLink RX12 31 RX12 "thrown" "I" ∈ wsX12_ifStroke := by decide +kernel
theorem iX12_ifStroke_X12 : ∀ w ∈ u_ws RX12 TX12 14, w ∈ wsX12_ifStroke := by decide +kernel
def wX12_ifStroke_22 (p1 : Int32) (p2 : Int32) (P : Int32 → Int32 → (Nat → Int32) → Int32 → (Nat → Int32) → (Nat → Int32) → Prop) (s1 : Int32) (thrown : Int32) (z : Nat → Int32) (many : Int32) (line : Nat → Int32) (aside : Nat → Int32) : Prop := (s1 ≤ 0 → wX12_keepAside z (fun aside_35 => wX12_addStroke p1 (fun z_40 many_40 line_40 => wX12_strokeAnswer z_40 p2 (fun r_45 => wX12_takeAside aside_35 (fun z_50 => P r_45 s1 z_50 many_40 line_40 aside_35) z_40)) z many line) aside) ∧ (¬ (s1 ≤ 0) → P 0 s1 z many line aside)
def wX12_ifStroke_21 (p1 : Int32) (p2 : Int32) (P : Int32 → Int32 → (Nat → Int32) → Int32 → (Nat → Int32) → (Nat → Int32) → Prop) (thrown : Int32) (z : Nat → Int32) (many : Int32) (line : Nat → Int32) (aside : Nat → Int32) : Prop := wX12_ifStroke_22 p1 p2 P 1 thrown z many line aside
def wX12_ifStroke (p1 : Int32) (p2 : Int32) (P : Int32 → Int32 → (Nat → Int32) → Int32 → (Nat → Int32) → (Nat → Int32) → Prop) (thrown : Int32) (z : Nat → Int32) (many : Int32) (line : Nat → Int32) (aside : Nat → Int32) : Prop := wX12_isStroke p1 (fun r_2 => (r_2 = 0 → wX12_ifStroke_21 p1 p2 P thrown z many line aside) ∧ (¬ (r_2 = 0) → wX12_within p2 0 3 (fun r_11 => (r_11 = 0 → wX12_ifStroke_21 p1 p2 P thrown z many line aside) ∧ (¬ (r_11 = 0) → wX12_ifStroke_22 p1 p2 P 0 thrown z many line aside))))
set_option maxHeartbeats 4000000 in
set_option maxRecDepth 100000 in
theorem kX12_ifStroke (l : Launch) (g : kT) (a_this : Nat) (a_this_z : Nat) (a_this_saved : Nat) (a_this_text : Nat) (a_this_line : Nat) (a_this_aside : Nat) (a_this_read : Nat) (a_this_fewest : Nat) (thrown : Int32) (z : Nat → Int32) (saves : Int32) (saved : Nat → Int32) (length : Int32) (text : Nat → Int32) (many : Int32) (line : Nat → Int32) (aside : Nat → Int32) (isWord : Int32) (entries : Int32) (rdA : Nat → Int32) (fewest : Nat → Int32) (h : Int64) (p1 : Int32) (p2 : Int32) (P : Int32 → Int32 → (Nat → Int32) → Int32 → (Nat → Int32) → (Nat → Int32) → Prop) (hw : wX12_ifStroke p1 p2 P thrown z many line aside) : Ki5 l g yX12_ifStroke wsX12_ifStroke 5 104 0 0 [.ref a_this, .int p1, .int p2] (gX12 g a_this a_this_z a_this_saved a_this_text a_this_line a_this_aside a_this_read a_this_fewest thrown z saves saved length text many line aside isWord entries rdA fewest h) P (fun thrown z many line aside => (gX12 g a_this a_this_z a_this_saved a_this_text a_this_line a_this_aside a_this_read a_this_fewest thrown z saves saved length text many line aside isWord entries rdA fewest h)) := by
  refine Ki5.mk (cc := cX12_ifStroke) (nL := 4) (ty := .int) (by decide +kernel) rfl (Nat.le_of_ble_eq_true rfl) ?_
  intro p e s m below meth c A Q ls F hl V ret
  have hx := F.x
  have hb := F.b
  have hl : lv_has ls 4 [(0, .ref a_this), (1, .int p1), (2, .int p2)] := hl
  have B22 :  ∀ {H : Heap} {locs : List Loc} {ls : Array Slot} (s1 : Int32) (thrown : Int32) (z : Nat → Int32) (many : Int32) (line : Nat → Int32) (aside : Nat → Int32) (V : VW g A s.heap H locs (gX12 g a_this a_this_z a_this_saved a_this_text a_this_line a_this_aside a_this_read a_this_fewest thrown z saves saved length text many line aside isWord entries rdA fewest h)) (hl : lv_has ls 4 [(0, .ref a_this), (1, .int p1), (2, .int p2)]) (hw : wX12_ifStroke_22 p1 p2 P s1 thrown z many line aside), W p l e (kR 5 104 0 0) s m ([.ref a_this, .int p1, .int p2] : List Value).toArray below meth c H locs 0 0 Q (F0 m 22 ls [.int s1, .ref a_this]) := by
    intro  H locs ls s1 thrown z many line aside V hl hw
    refine kput F V 8 0 0 tyX12_ok nmX12 rfl rfl iX12_ifStroke_X12 fX12_ifStroke_31 (by decide) rfl rfl rfl rfl (Nat.le_of_ble_eq_true rfl) dX12_ifStroke_22 (fun H locs V => ?_)
    have V : VW g A s.heap H locs (gX12 g a_this a_this_z a_this_saved a_this_text a_this_line a_this_aside a_this_read a_this_fewest s1 z saves saved length text many line aside isWord entries rdA fewest h) := V
    refine lv_aload_n hx hb dX12_ifStroke_25 rfl (lv_at hl 0 rfl) ?_
    refine kget F V 8 0 0 rfl rfl iX12_ifStroke_X12 fX12_ifStroke_31 (by decide) rfl rfl dX12_ifStroke_26 ?_
    refine lv_if_le (tgt := 34) hx hb dX12_ifStroke_29 (by decide) (fun c_29 => ?_) (fun c_29 => ?_)
    · have hw := hw.1 c_29
      refine lv_aload_n hx hb dX12_ifStroke_34 rfl (lv_at hl 0 rfl) ?_
      refine kVv1 (rest := []) F hl V [0, 1, 2, 3, 4, 5, 6, 7] [] [0, 1, 2, 3, 4, 5, 6, 7] (fun aside_35 => (gX12 g a_this a_this_z a_this_saved a_this_text a_this_line a_this_aside a_this_read a_this_fewest s1 z saves saved length text many line aside_35 isWord entries rdA fewest h)) a_this 8 0 rfl rfl (kX12_keepAside l g a_this a_this_z a_this_saved a_this_text a_this_line a_this_aside a_this_read a_this_fewest s1 z saves saved length text many line aside isWord entries rdA fewest h _ hw) gX12_ifStroke_X12_keepAside rfl 0 rfl hdX12_keepAside rfl rfl (fun _ => rfl) rfl rfl rfl (by decide) ⟨Nat.le_of_ble_eq_true rfl, Nat.le_of_ble_eq_true rfl⟩ ⟨Nat.le_of_ble_eq_true rfl, Nat.le_of_ble_eq_true rfl⟩ (Nat.le_of_ble_eq_true rfl) rfl dX12_ifStroke_35 (fun aside_35 H locs hw V => ?_)
      refine lv_aload_n hx hb dX12_ifStroke_38 rfl (lv_at hl 0 rfl) ?_
      refine lv_iload_n hx hb dX12_ifStroke_39 rfl (lv_at hl 1 rfl) ?_
      refine kVv3 (rest := []) F hl V [0, 1, 2, 3, 4, 5, 6, 7] [] [0, 1, 2, 3, 4, 5, 6, 7] (fun z_40 many_40 line_40 => (gX12 g a_this a_this_z a_this_saved a_this_text a_this_line a_this_aside a_this_read a_this_fewest s1 z_40 saves saved length text many_40 line_40 aside_35 isWord entries rdA fewest h)) a_this 8 0 rfl rfl (kX12_addStroke l g a_this a_this_z a_this_saved a_this_text a_this_line a_this_aside a_this_read a_this_fewest s1 z saves saved length text many line aside_35 isWord entries rdA fewest h p1 _ hw) gX12_ifStroke_X12_addStroke rfl 1 rfl hdX12_addStroke rfl rfl (fun _ _ _ => rfl) rfl rfl rfl (by decide) ⟨Nat.le_of_ble_eq_true rfl, Nat.le_of_ble_eq_true rfl⟩ ⟨Nat.le_of_ble_eq_true rfl, Nat.le_of_ble_eq_true rfl⟩ (Nat.le_of_ble_eq_true rfl) rfl dX12_ifStroke_40 (fun z_40 many_40 line_40 H locs hw V => ?_)
      refine lv_aload_n hx hb dX12_ifStroke_43 rfl (lv_at hl 0 rfl) ?_
      refine lv_iload_n hx hb dX12_ifStroke_44 rfl (lv_at hl 2 rfl) ?_
      refine kVi0 (rest := []) F hl V [0, 1, 2, 3, 4, 5, 6, 7] [] [0, 1, 2, 3, 4, 5, 6, 7] (gX12 g a_this a_this_z a_this_saved a_this_text a_this_line a_this_aside a_this_read a_this_fewest s1 z_40 saves saved length text many_40 line_40 aside_35 isWord entries rdA fewest h) a_this 8 0 rfl rfl (kX12_strokeAnswer l g a_this a_this_z a_this_saved a_this_text a_this_line a_this_aside a_this_read a_this_fewest s1 z_40 saves saved length text many_40 line_40 aside_35 isWord entries rdA fewest h p2 _ hw) gX12_ifStroke_X12_strokeAnswer rfl 1 rfl hdX12_strokeAnswer rfl rfl (fun _ => rfl) rfl rfl rfl (by decide) ⟨Nat.le_of_ble_eq_true rfl, Nat.le_of_ble_eq_true rfl⟩ ⟨Nat.le_of_ble_eq_true rfl, Nat.le_of_ble_eq_true rfl⟩ (Nat.le_of_ble_eq_true rfl) rfl dX12_ifStroke_45 (fun r_45 H locs hw V => ?_)
      refine lv_istore_n (lv' := [(3, .int r_45), (0, .ref a_this), (1, .int p1), (2, .int p2)]) hx hb dX12_ifStroke_48 rfl hl (by decide) rfl (fun ls hl => ?_)
      refine lv_aload_n hx hb dX12_ifStroke_49 rfl (lv_at hl 1 rfl) ?_
      refine kVv1 (rest := []) F hl V [0, 1, 2, 3, 4, 5, 6, 7] [] [0, 1, 2, 3, 4, 5, 6, 7] (fun z_50 => (gX12 g a_this a_this_z a_this_saved a_this_text a_this_line a_this_aside a_this_read a_this_fewest s1 z_50 saves saved length text many_40 line_40 aside_35 isWord entries rdA fewest h)) a_this 8 0 rfl rfl (kX12_takeAside l g a_this a_this_z a_this_saved a_this_text a_this_line a_this_aside a_this_read a_this_fewest s1 z_40 saves saved length text many_40 line_40 aside_35 isWord entries rdA fewest h _ hw) gX12_ifStroke_X12_takeAside rfl 0 rfl hdX12_takeAside rfl rfl (fun _ => rfl) rfl rfl rfl (by decide) ⟨Nat.le_of_ble_eq_true rfl, Nat.le_of_ble_eq_true rfl⟩ ⟨Nat.le_of_ble_eq_true rfl, Nat.le_of_ble_eq_true rfl⟩ (Nat.le_of_ble_eq_true rfl) rfl dX12_ifStroke_50 (fun z_50 H locs hw V => ?_)
      refine lv_iload_n hx hb dX12_ifStroke_53 rfl (lv_at hl 0 rfl) ?_
      exact ret _ _ _ _ _ _ _ _ _ _ rfl dX12_ifStroke_54 V hw
    · have hw := hw.2 c_29
      refine lv_iconst (v := 0) hx hb dX12_ifStroke_32 (by decide) ?_
      exact ret _ _ _ _ _ _ _ _ _ _ rfl dX12_ifStroke_33 V hw
  have B21 :  ∀ {H : Heap} {locs : List Loc} {ls : Array Slot} (thrown : Int32) (z : Nat → Int32) (many : Int32) (line : Nat → Int32) (aside : Nat → Int32) (V : VW g A s.heap H locs (gX12 g a_this a_this_z a_this_saved a_this_text a_this_line a_this_aside a_this_read a_this_fewest thrown z saves saved length text many line aside isWord entries rdA fewest h)) (hl : lv_has ls 4 [(0, .ref a_this), (1, .int p1), (2, .int p2)]) (hw : wX12_ifStroke_21 p1 p2 P thrown z many line aside), W p l e (kR 5 104 0 0) s m ([.ref a_this, .int p1, .int p2] : List Value).toArray below meth c H locs 0 0 Q (F0 m 21 ls [.ref a_this]) := by
    intro  H locs ls thrown z many line aside V hl hw
    refine lv_iconst (v := 1) hx hb dX12_ifStroke_21 (by decide) ?_
    exact B22  1 thrown z many line aside V hl hw
  refine lv_aload_n hx hb dX12_ifStroke_0 rfl (lv_at hl 0 rfl) ?_
  refine lv_iload_n hx hb dX12_ifStroke_1 rfl (lv_at hl 1 rfl) ?_
  refine kSi0n (rest := [.ref a_this]) F hl V (kX12_isStroke l g p1 _ hw) gX12_ifStroke_X12_isStroke rfl 1 rfl hdX12_isStroke ⟨Nat.le_of_ble_eq_true rfl, Nat.le_of_ble_eq_true rfl⟩ ⟨Nat.le_of_ble_eq_true rfl, Nat.le_of_ble_eq_true rfl⟩ (Nat.le_of_ble_eq_true rfl) rfl dX12_ifStroke_2 (fun r_2 H locs hw V => ?_)
  refine lv_if_eq (tgt := 21) hx hb dX12_ifStroke_5 (by decide) (fun c_5 => ?_) (fun c_5 => ?_)
  · have hw := hw.1 c_5
    exact B21  thrown z many line aside V hl hw
  · have hw := hw.2 c_5
    refine lv_iload_n hx hb dX12_ifStroke_8 rfl (lv_at hl 2 rfl) ?_
    refine lv_iconst (v := 0) hx hb dX12_ifStroke_9 (by decide) ?_
    refine lv_iconst (v := 3) hx hb dX12_ifStroke_10 (by decide) ?_
    refine kSi0n (rest := [.ref a_this]) F hl V (kX12_within l g p2 0 3 _ hw) gX12_ifStroke_X12_within rfl 3 rfl hdX12_within ⟨Nat.le_of_ble_eq_true rfl, Nat.le_of_ble_eq_true rfl⟩ ⟨Nat.le_of_ble_eq_true rfl, Nat.le_of_ble_eq_true rfl⟩ (Nat.le_of_ble_eq_true rfl) rfl dX12_ifStroke_11 (fun r_11 H locs hw V => ?_)
    refine lv_if_eq (tgt := 21) hx hb dX12_ifStroke_14 (by decide) (fun c_14 => ?_) (fun c_14 => ?_)
    · have hw := hw.1 c_14
      exact B21  thrown z many line aside V hl hw
    · have hw := hw.2 c_14
      refine lv_iconst (v := 0) hx hb dX12_ifStroke_17 (by decide) ?_
      refine lv_goto (tgt := 22) hx hb dX12_ifStroke_18 (by decide) ?_
      exact B22  0 thrown z many line aside V hl hw
theorem hdX12_ifRemoved : yX12_ifRemoved.cls = RX12 ∧ yX12_ifRemoved.cls ≠ "java/lang/invoke/MethodHandle" ∧ yX12_ifRemoved.cls ≠ "java/lang/invoke/VarHandle" ∧ (parseMethodDescriptor yX12_ifRemoved.desc).map (fun d => d.parameters.length) = some 1 := by decide +kernel
theorem fX12_ifRemoved_31 : Cond.fieldLink RX12 31 RX12 "thrown" "I" ∈ wsX12_ifRemoved := by decide +kernel
theorem iX12_ifRemoved_X12 : ∀ w ∈ u_ws RX12 TX12 14, w ∈ wsX12_ifRemoved := by decide +kernel
theorem fX12_ifRemoved_7 : Cond.fieldLink RX12 7 RX12 "z" "[I" ∈ wsX12_ifRemoved := by decide +kernel
def wX12_ifRemoved_14 (p1 : Int32) (P : Int32 → Int32 → (Nat → Int32) → Int32 → (Nat → Int32) → (Nat → Int32) → Prop) (s1 : Int32) (thrown : Int32) (z : Nat → Int32) (many : Int32) (line : Nat → Int32) (aside : Nat → Int32) : Prop := (s1 ≤ 0 → wX12_keepAside z (fun aside_27 => wX12_drop p1 (fun z_32 many_32 line_32 => vp_in 399 1317 ∧ vp_in 1315 1317 ∧ ∀ v2_52 : Int32, v2_52 = ((z_32 (399 : Int32).toNatClampNeg) - (z_32 (1315 : Int32).toNatClampNeg)) → wX12_takeAside aside_27 (fun z_54 => P v2_52 s1 z_54 many_32 line_32 aside_27) z_32) z many line) aside) ∧ (¬ (s1 ≤ 0) → P 0 s1 z many line aside)
def wX12_ifRemoved (p1 : Int32) (P : Int32 → Int32 → (Nat → Int32) → Int32 → (Nat → Int32) → (Nat → Int32) → Prop) (thrown : Int32) (z : Nat → Int32) (many : Int32) (line : Nat → Int32) (aside : Nat → Int32) : Prop := wX12_isEntry z p1 (fun r_3 => (r_3 = 0 → wX12_ifRemoved_14 p1 P 1 thrown z many line aside) ∧ (¬ (r_3 = 0) → wX12_ifRemoved_14 p1 P 0 thrown z many line aside))
set_option maxHeartbeats 4000000 in
set_option maxRecDepth 100000 in
theorem kX12_ifRemoved (l : Launch) (g : kT) (a_this : Nat) (a_this_z : Nat) (a_this_saved : Nat) (a_this_text : Nat) (a_this_line : Nat) (a_this_aside : Nat) (a_this_read : Nat) (a_this_fewest : Nat) (thrown : Int32) (z : Nat → Int32) (saves : Int32) (saved : Nat → Int32) (length : Int32) (text : Nat → Int32) (many : Int32) (line : Nat → Int32) (aside : Nat → Int32) (isWord : Int32) (entries : Int32) (rdA : Nat → Int32) (fewest : Nat → Int32) (h : Int64) (p1 : Int32) (P : Int32 → Int32 → (Nat → Int32) → Int32 → (Nat → Int32) → (Nat → Int32) → Prop) (hw : wX12_ifRemoved p1 P thrown z many line aside) : Ki5 l g yX12_ifRemoved wsX12_ifRemoved 5 105 0 0 [.ref a_this, .int p1] (gX12 g a_this a_this_z a_this_saved a_this_text a_this_line a_this_aside a_this_read a_this_fewest thrown z saves saved length text many line aside isWord entries rdA fewest h) P (fun thrown z many line aside => (gX12 g a_this a_this_z a_this_saved a_this_text a_this_line a_this_aside a_this_read a_this_fewest thrown z saves saved length text many line aside isWord entries rdA fewest h)) := by
  refine Ki5.mk (cc := cX12_ifRemoved) (nL := 3) (ty := .int) (by decide +kernel) rfl (Nat.le_of_ble_eq_true rfl) ?_
  intro p e s m below meth c A Q ls F hl V ret
  have hx := F.x
  have hb := F.b
  have hl : lv_has ls 3 [(0, .ref a_this), (1, .int p1)] := hl
  have B14 :  ∀ {H : Heap} {locs : List Loc} {ls : Array Slot} (s1 : Int32) (thrown : Int32) (z : Nat → Int32) (many : Int32) (line : Nat → Int32) (aside : Nat → Int32) (V : VW g A s.heap H locs (gX12 g a_this a_this_z a_this_saved a_this_text a_this_line a_this_aside a_this_read a_this_fewest thrown z saves saved length text many line aside isWord entries rdA fewest h)) (hl : lv_has ls 3 [(0, .ref a_this), (1, .int p1)]) (hw : wX12_ifRemoved_14 p1 P s1 thrown z many line aside), W p l e (kR 5 105 0 0) s m ([.ref a_this, .int p1] : List Value).toArray below meth c H locs 0 0 Q (F0 m 14 ls [.int s1, .ref a_this]) := by
    intro  H locs ls s1 thrown z many line aside V hl hw
    refine kput F V 8 0 0 tyX12_ok nmX12 rfl rfl iX12_ifRemoved_X12 fX12_ifRemoved_31 (by decide) rfl rfl rfl rfl (Nat.le_of_ble_eq_true rfl) dX12_ifRemoved_14 (fun H locs V => ?_)
    have V : VW g A s.heap H locs (gX12 g a_this a_this_z a_this_saved a_this_text a_this_line a_this_aside a_this_read a_this_fewest s1 z saves saved length text many line aside isWord entries rdA fewest h) := V
    refine lv_aload_n hx hb dX12_ifRemoved_17 rfl (lv_at hl 0 rfl) ?_
    refine kget F V 8 0 0 rfl rfl iX12_ifRemoved_X12 fX12_ifRemoved_31 (by decide) rfl rfl dX12_ifRemoved_18 ?_
    refine lv_if_le (tgt := 26) hx hb dX12_ifRemoved_21 (by decide) (fun c_21 => ?_) (fun c_21 => ?_)
    · have hw := hw.1 c_21
      refine lv_aload_n hx hb dX12_ifRemoved_26 rfl (lv_at hl 0 rfl) ?_
      refine kVv1 (rest := []) F hl V [0, 1, 2, 3, 4, 5, 6, 7] [] [0, 1, 2, 3, 4, 5, 6, 7] (fun aside_27 => (gX12 g a_this a_this_z a_this_saved a_this_text a_this_line a_this_aside a_this_read a_this_fewest s1 z saves saved length text many line aside_27 isWord entries rdA fewest h)) a_this 8 0 rfl rfl (kX12_keepAside l g a_this a_this_z a_this_saved a_this_text a_this_line a_this_aside a_this_read a_this_fewest s1 z saves saved length text many line aside isWord entries rdA fewest h _ hw) gX12_ifRemoved_X12_keepAside rfl 0 rfl hdX12_keepAside rfl rfl (fun _ => rfl) rfl rfl rfl (by decide) ⟨Nat.le_of_ble_eq_true rfl, Nat.le_of_ble_eq_true rfl⟩ ⟨Nat.le_of_ble_eq_true rfl, Nat.le_of_ble_eq_true rfl⟩ (Nat.le_of_ble_eq_true rfl) rfl dX12_ifRemoved_27 (fun aside_27 H locs hw V => ?_)
      refine lv_aload_n hx hb dX12_ifRemoved_30 rfl (lv_at hl 0 rfl) ?_
      refine lv_iload_n hx hb dX12_ifRemoved_31 rfl (lv_at hl 1 rfl) ?_
      refine kVv3 (rest := []) F hl V [0, 1, 2, 3, 4, 5, 6, 7] [] [0, 1, 2, 3, 4, 5, 6, 7] (fun z_32 many_32 line_32 => (gX12 g a_this a_this_z a_this_saved a_this_text a_this_line a_this_aside a_this_read a_this_fewest s1 z_32 saves saved length text many_32 line_32 aside_27 isWord entries rdA fewest h)) a_this 8 0 rfl rfl (kX12_drop l g a_this a_this_z a_this_saved a_this_text a_this_line a_this_aside a_this_read a_this_fewest s1 z saves saved length text many line aside_27 isWord entries rdA fewest h p1 _ hw) gX12_ifRemoved_X12_drop rfl 1 rfl hdX12_drop rfl rfl (fun _ _ _ => rfl) rfl rfl rfl (by decide) ⟨Nat.le_of_ble_eq_true rfl, Nat.le_of_ble_eq_true rfl⟩ ⟨Nat.le_of_ble_eq_true rfl, Nat.le_of_ble_eq_true rfl⟩ (Nat.le_of_ble_eq_true rfl) rfl dX12_ifRemoved_32 (fun z_32 many_32 line_32 H locs hw V => ?_)
      refine lv_aload_n hx hb dX12_ifRemoved_35 rfl (lv_at hl 0 rfl) ?_
      refine kget F V 8 1 0 rfl rfl iX12_ifRemoved_X12 fX12_ifRemoved_7 (by decide) rfl rfl dX12_ifRemoved_36 ?_
      refine lv_sipush (v := 399) hx hb dX12_ifRemoved_39 (by decide) ?_
      refine kiald F V 1 rfl hw.1 dX12_ifRemoved_42 ?_
      have hw := hw.2
      refine lv_aload_n hx hb dX12_ifRemoved_43 rfl (lv_at hl 0 rfl) ?_
      refine kget F V 8 1 0 rfl rfl iX12_ifRemoved_X12 fX12_ifRemoved_7 (by decide) rfl rfl dX12_ifRemoved_44 ?_
      refine lv_sipush (v := 1315) hx hb dX12_ifRemoved_47 (by decide) ?_
      refine kiald F V 1 rfl hw.1 dX12_ifRemoved_50 ?_
      have hw := hw.2
      refine lv_isub hx hb dX12_ifRemoved_51 ?_
      refine lv_topi (fun v2_52 ev2_52 => ?_)
      have hw := hw v2_52 ev2_52
      refine lv_istore_n (lv' := [(2, .int v2_52), (0, .ref a_this), (1, .int p1)]) hx hb dX12_ifRemoved_52 rfl hl (by decide) rfl (fun ls hl => ?_)
      refine lv_aload_n hx hb dX12_ifRemoved_53 rfl (lv_at hl 1 rfl) ?_
      refine kVv1 (rest := []) F hl V [0, 1, 2, 3, 4, 5, 6, 7] [] [0, 1, 2, 3, 4, 5, 6, 7] (fun z_54 => (gX12 g a_this a_this_z a_this_saved a_this_text a_this_line a_this_aside a_this_read a_this_fewest s1 z_54 saves saved length text many_32 line_32 aside_27 isWord entries rdA fewest h)) a_this 8 0 rfl rfl (kX12_takeAside l g a_this a_this_z a_this_saved a_this_text a_this_line a_this_aside a_this_read a_this_fewest s1 z_32 saves saved length text many_32 line_32 aside_27 isWord entries rdA fewest h _ hw) gX12_ifRemoved_X12_takeAside rfl 0 rfl hdX12_takeAside rfl rfl (fun _ => rfl) rfl rfl rfl (by decide) ⟨Nat.le_of_ble_eq_true rfl, Nat.le_of_ble_eq_true rfl⟩ ⟨Nat.le_of_ble_eq_true rfl, Nat.le_of_ble_eq_true rfl⟩ (Nat.le_of_ble_eq_true rfl) rfl dX12_ifRemoved_54 (fun z_54 H locs hw V => ?_)
      refine lv_iload_n hx hb dX12_ifRemoved_57 rfl (lv_at hl 0 rfl) ?_
      exact ret _ _ _ _ _ _ _ _ _ _ rfl dX12_ifRemoved_58 V hw
    · have hw := hw.2 c_21
      refine lv_iconst (v := 0) hx hb dX12_ifRemoved_24 (by decide) ?_
      exact ret _ _ _ _ _ _ _ _ _ _ rfl dX12_ifRemoved_25 V hw
  refine lv_aload_n hx hb dX12_ifRemoved_0 rfl (lv_at hl 0 rfl) ?_
  refine lv_aload_n hx hb dX12_ifRemoved_1 rfl (lv_at hl 0 rfl) ?_
  refine lv_iload_n hx hb dX12_ifRemoved_2 rfl (lv_at hl 1 rfl) ?_
  refine kVi0 (rest := [.ref a_this]) F hl V [0, 1, 2, 3, 4, 5, 6, 7] [] [0, 1, 2, 3, 4, 5, 6, 7] (gX12 g a_this a_this_z a_this_saved a_this_text a_this_line a_this_aside a_this_read a_this_fewest thrown z saves saved length text many line aside isWord entries rdA fewest h) a_this 8 0 rfl rfl (kX12_isEntry l g a_this a_this_z a_this_saved a_this_text a_this_line a_this_aside a_this_read a_this_fewest thrown z saves saved length text many line aside isWord entries rdA fewest h p1 _ hw) gX12_ifRemoved_X12_isEntry rfl 1 rfl hdX12_isEntry rfl rfl (fun _ => rfl) rfl rfl rfl (by decide) ⟨Nat.le_of_ble_eq_true rfl, Nat.le_of_ble_eq_true rfl⟩ ⟨Nat.le_of_ble_eq_true rfl, Nat.le_of_ble_eq_true rfl⟩ (Nat.le_of_ble_eq_true rfl) rfl dX12_ifRemoved_3 (fun r_3 H locs hw V => ?_)
  refine lv_if_eq (tgt := 13) hx hb dX12_ifRemoved_6 (by decide) (fun c_6 => ?_) (fun c_6 => ?_)
  · have hw := hw.1 c_6
    refine lv_iconst (v := 1) hx hb dX12_ifRemoved_13 (by decide) ?_
    exact B14  1 thrown z many line aside V hl hw
  · have hw := hw.2 c_6
    refine lv_iconst (v := 0) hx hb dX12_ifRemoved_9 (by decide) ?_
    refine lv_goto (tgt := 14) hx hb dX12_ifRemoved_10 (by decide) ?_
    exact B14  0 thrown z many line aside V hl hw
theorem hdX12_isWordAt : yX12_isWordAt.cls = RX12 ∧ yX12_isWordAt.cls ≠ "java/lang/invoke/MethodHandle" ∧ yX12_isWordAt.cls ≠ "java/lang/invoke/VarHandle" ∧ (parseMethodDescriptor yX12_isWordAt.desc).map (fun d => d.parameters.length) = some 2 := by decide +kernel
theorem fX12_isWordAt_7 : Cond.fieldLink RX12 7 RX12 "z" "[I" ∈ wsX12_isWordAt := by decide +kernel
theorem iX12_isWordAt_X12 : ∀ w ∈ u_ws RX12 TX12 14, w ∈ wsX12_isWordAt := by decide +kernel
theorem fX12_isWordAt_121 : Cond.fieldLink RX12 121 RX12 "length" "I" ∈ wsX12_isWordAt := by decide +kernel
theorem fX12_isWordAt_16 : Cond.fieldLink RX12 16 RX12 "text" "[I" ∈ wsX12_isWordAt := by decide +kernel
def wX12_isWordAt_75 (z : Nat → Int32) (length : Int32) (text : Nat → Int32) (p1 : Int32) (p2 : Int32) (K32 : Int32 → Int32 → Int32 → Prop) (P : Int32 → Prop) (v3 : Int32) (v5 : Int32) (s0 : Int32) : Prop := K32 v3 s0 (v5 + 1)
def wX12_isWordAt_32 (z : Nat → Int32) (length : Int32) (text : Nat → Int32) (p1 : Int32) (p2 : Int32) (P : Int32 → Prop) : Nat → Int32 → Int32 → Int32 → Prop
  | 0, _, _, _ => False
  | n + 1, v3, v4, v5 => (v3 ≤ v5 → (v4 = 0 ∨ v4 = 1) ∧ P v4) ∧ (¬ (v3 ≤ v5) → (v4 = 0 → (v4 = 0 ∨ v4 = 1) ∧ P v4) ∧ (¬ (v4 = 0) → vp_in (p2 + v5) 60 ∧ wX12_entryAt p1 (fun r_57 => vp_in ((r_57 + 6) + v5) 1317 ∧ (¬ (text (p2 + v5).toNatClampNeg) = (z ((r_57 + 6) + v5).toNatClampNeg) → wX12_isWordAt_75 z length text p1 p2 (wX12_isWordAt_32 z length text p1 p2 P n) P v3 v5 0) ∧ ((text (p2 + v5).toNatClampNeg) = (z ((r_57 + 6) + v5).toNatClampNeg) → wX12_isWordAt_75 z length text p1 p2 (wX12_isWordAt_32 z length text p1 p2 P n) P v3 v5 1))))
def wX12_isWordAt_27 (z : Nat → Int32) (length : Int32) (text : Nat → Int32) (p1 : Int32) (p2 : Int32) (P : Int32 → Prop) (v3 : Int32) (s0 : Int32) : Prop := ∃ n_32, wX12_isWordAt_32 z length text p1 p2 P n_32 v3 s0 0
def wX12_isWordAt (z : Nat → Int32) (length : Int32) (text : Nat → Int32) (p1 : Int32) (p2 : Int32) (P : Int32 → Prop) : Prop := wX12_entryAt p1 (fun r_5 => vp_in (r_5 + 5) 1317 ∧ ∀ v3_11 : Int32, v3_11 = (z (r_5 + 5).toNatClampNeg) → (length < (p2 + v3_11) → wX12_isWordAt_27 z length text p1 p2 P v3_11 0) ∧ (¬ (length < (p2 + v3_11)) → wX12_isWordAt_27 z length text p1 p2 P v3_11 1))
set_option maxHeartbeats 4000000 in
set_option maxRecDepth 100000 in
theorem kX12_isWordAt (l : Launch) (g : kT) (a_this : Nat) (a_this_z : Nat) (a_this_saved : Nat) (a_this_text : Nat) (a_this_line : Nat) (a_this_aside : Nat) (a_this_read : Nat) (a_this_fewest : Nat) (thrown : Int32) (z : Nat → Int32) (saves : Int32) (saved : Nat → Int32) (length : Int32) (text : Nat → Int32) (many : Int32) (line : Nat → Int32) (aside : Nat → Int32) (isWord : Int32) (entries : Int32) (rdA : Nat → Int32) (fewest : Nat → Int32) (h : Int64) (p1 : Int32) (p2 : Int32) (P : Int32 → Prop) (hw : wX12_isWordAt z length text p1 p2 P) : Ki0 l g yX12_isWordAt wsX12_isWordAt 1 20 0 0 [.ref a_this, .int p1, .int p2] (gX12 g a_this a_this_z a_this_saved a_this_text a_this_line a_this_aside a_this_read a_this_fewest thrown z saves saved length text many line aside isWord entries rdA fewest h) P (gX12 g a_this a_this_z a_this_saved a_this_text a_this_line a_this_aside a_this_read a_this_fewest thrown z saves saved length text many line aside isWord entries rdA fewest h) := by
  refine Ki0.mk (cc := cX12_isWordAt) (nL := 6) (ty := .boolean) (by decide +kernel) rfl (Nat.le_of_ble_eq_true rfl) ?_
  intro p e s m below meth c A Q ls F hl V ret
  have hx := F.x
  have hb := F.b
  have hl : lv_has ls 6 [(0, .ref a_this), (1, .int p1), (2, .int p2)] := hl
  have B75 : ∀ (K32 : Int32 → Int32 → Int32 → Prop) (k32 : ∀ {H : Heap} {locs : List Loc} {ls : Array Slot} (v3 : Int32) (v4 : Int32) (v5 : Int32), VW g A s.heap H locs (gX12 g a_this a_this_z a_this_saved a_this_text a_this_line a_this_aside a_this_read a_this_fewest thrown z saves saved length text many line aside isWord entries rdA fewest h) → lv_has ls 6 [(0, .ref a_this), (1, .int p1), (2, .int p2), (3, .int v3), (4, .int v4), (5, .int v5)] → K32 v3 v4 v5 → W p l e (kR 1 20 0 0) s m ([.ref a_this, .int p1, .int p2] : List Value).toArray below meth c H locs 0 0 Q (F0 m 32 ls [])), ∀ {H : Heap} {locs : List Loc} {ls : Array Slot} (v3 : Int32) (v5 : Int32) (s0 : Int32) (V : VW g A s.heap H locs (gX12 g a_this a_this_z a_this_saved a_this_text a_this_line a_this_aside a_this_read a_this_fewest thrown z saves saved length text many line aside isWord entries rdA fewest h)) (hl : lv_has ls 6 [(0, .ref a_this), (1, .int p1), (2, .int p2), (3, .int v3), (5, .int v5)]) (hw : wX12_isWordAt_75 z length text p1 p2 K32 P v3 v5 s0), W p l e (kR 1 20 0 0) s m ([.ref a_this, .int p1, .int p2] : List Value).toArray below meth c H locs 0 0 Q (F0 m 75 ls [.int s0]) := by
    intro K32 k32 H locs ls v3 v5 s0 V hl hw
    refine lv_istore (lv' := [(4, .int s0), (0, .ref a_this), (1, .int p1), (2, .int p2), (3, .int v3), (5, .int v5)]) hx hb dX12_isWordAt_75 hl (by decide) rfl (fun ls hl => ?_)
    refine lv_iinc (v := v5 + 1) (lv' := [(5, .int (v5 + 1)), (4, .int s0), (0, .ref a_this), (1, .int p1), (2, .int p2), (3, .int v3)]) hx hb dX12_isWordAt_77 hl (k := 5) rfl rfl (by decide) rfl (fun ls hl => ?_)
    refine lv_goto (tgt := 32) hx hb dX12_isWordAt_80 (by decide) ?_
    exact k32 v3 s0 (v5 + 1) V (lv_sub hl [2, 3, 4, 5, 1, 0] rfl) hw
  have B32 :  ∀ (n : Nat), ∀ {H : Heap} {locs : List Loc} {ls : Array Slot} (v3 : Int32) (v4 : Int32) (v5 : Int32) (V : VW g A s.heap H locs (gX12 g a_this a_this_z a_this_saved a_this_text a_this_line a_this_aside a_this_read a_this_fewest thrown z saves saved length text many line aside isWord entries rdA fewest h)) (hl : lv_has ls 6 [(0, .ref a_this), (1, .int p1), (2, .int p2), (3, .int v3), (4, .int v4), (5, .int v5)]) (hw : wX12_isWordAt_32 z length text p1 p2 P n v3 v4 v5), W p l e (kR 1 20 0 0) s m ([.ref a_this, .int p1, .int p2] : List Value).toArray below meth c H locs 0 0 Q (F0 m 32 ls []) := by
    intro n
    induction n with
    | zero => intro _ _ _ _ _ _ V hl hw; exact hw.elim
    | succ n ih =>
      intro H locs ls v3 v4 v5 V hl hw
      refine lv_iload hx hb dX12_isWordAt_32 (lv_at hl 5 rfl) ?_
      refine lv_iload_n hx hb dX12_isWordAt_34 rfl (lv_at hl 3 rfl) ?_
      refine lv_icmp_ge (tgt := 83) hx hb dX12_isWordAt_35 (by decide) (fun c_35 => ?_) (fun c_35 => ?_)
      · have hw := hw.1 c_35
        refine lv_iload hx hb dX12_isWordAt_83 (lv_at hl 4 rfl) ?_
        exact ret _ _ _ _ _ (k01n hw.1) dX12_isWordAt_85 V hw.2
      · have hw := hw.2 c_35
        refine lv_iload hx hb dX12_isWordAt_38 (lv_at hl 4 rfl) ?_
        refine lv_if_eq (tgt := 83) hx hb dX12_isWordAt_40 (by decide) (fun c_40 => ?_) (fun c_40 => ?_)
        · have hw := hw.1 c_40
          refine lv_iload hx hb dX12_isWordAt_83 (lv_at hl 4 rfl) ?_
          exact ret _ _ _ _ _ (k01n hw.1) dX12_isWordAt_85 V hw.2
        · have hw := hw.2 c_40
          refine lv_aload_n hx hb dX12_isWordAt_43 rfl (lv_at hl 0 rfl) ?_
          refine kget F V 8 5 0 rfl rfl iX12_isWordAt_X12 fX12_isWordAt_16 (by decide) rfl rfl dX12_isWordAt_44 ?_
          refine lv_iload_n hx hb dX12_isWordAt_47 rfl (lv_at hl 2 rfl) ?_
          refine lv_iload hx hb dX12_isWordAt_48 (lv_at hl 5 rfl) ?_
          refine lv_iadd hx hb dX12_isWordAt_50 ?_
          refine kiald F V 3 rfl hw.1 dX12_isWordAt_51 ?_
          have hw := hw.2
          refine lv_aload_n hx hb dX12_isWordAt_52 rfl (lv_at hl 0 rfl) ?_
          refine kget F V 8 1 0 rfl rfl iX12_isWordAt_X12 fX12_isWordAt_7 (by decide) rfl rfl dX12_isWordAt_53 ?_
          refine lv_iload_n hx hb dX12_isWordAt_56 rfl (lv_at hl 1 rfl) ?_
          refine kSi0n (rest := [.ref a_this_z, .int (text (p2 + v5).toNatClampNeg)]) F hl V (kX12_entryAt l g p1 _ hw) gX12_isWordAt_X12_entryAt rfl 1 rfl hdX12_entryAt ⟨Nat.le_of_ble_eq_true rfl, Nat.le_of_ble_eq_true rfl⟩ ⟨Nat.le_of_ble_eq_true rfl, Nat.le_of_ble_eq_true rfl⟩ (Nat.le_of_ble_eq_true rfl) rfl dX12_isWordAt_57 (fun r_57 H locs hw V => ?_)
          refine lv_bipush (v := 6) hx hb dX12_isWordAt_60 (by decide) ?_
          refine lv_iadd hx hb dX12_isWordAt_62 ?_
          refine lv_iload hx hb dX12_isWordAt_63 (lv_at hl 5 rfl) ?_
          refine lv_iadd hx hb dX12_isWordAt_65 ?_
          refine kiald F V 1 rfl hw.1 dX12_isWordAt_66 ?_
          have hw := hw.2
          refine lv_icmp_ne (tgt := 74) hx hb dX12_isWordAt_67 (by decide) (fun c_67 => ?_) (fun c_67 => ?_)
          · have hw := hw.1 c_67
            refine lv_iconst (v := 0) hx hb dX12_isWordAt_74 (by decide) ?_
            exact B75 (wX12_isWordAt_32 z length text p1 p2 P n) ih v3 v5 0 V (lv_sub hl [0, 1, 2, 3, 5] rfl) hw
          · have hw := hw.2 c_67
            refine lv_iconst (v := 1) hx hb dX12_isWordAt_70 (by decide) ?_
            refine lv_goto (tgt := 75) hx hb dX12_isWordAt_71 (by decide) ?_
            exact B75 (wX12_isWordAt_32 z length text p1 p2 P n) ih v3 v5 1 V (lv_sub hl [0, 1, 2, 3, 5] rfl) hw
  have B27 :  ∀ {H : Heap} {locs : List Loc} {ls : Array Slot} (v3 : Int32) (s0 : Int32) (V : VW g A s.heap H locs (gX12 g a_this a_this_z a_this_saved a_this_text a_this_line a_this_aside a_this_read a_this_fewest thrown z saves saved length text many line aside isWord entries rdA fewest h)) (hl : lv_has ls 6 [(0, .ref a_this), (1, .int p1), (2, .int p2), (3, .int v3)]) (hw : wX12_isWordAt_27 z length text p1 p2 P v3 s0), W p l e (kR 1 20 0 0) s m ([.ref a_this, .int p1, .int p2] : List Value).toArray below meth c H locs 0 0 Q (F0 m 27 ls [.int s0]) := by
    intro  H locs ls v3 s0 V hl hw
    refine lv_istore (lv' := [(4, .int s0), (0, .ref a_this), (1, .int p1), (2, .int p2), (3, .int v3)]) hx hb dX12_isWordAt_27 hl (by decide) rfl (fun ls hl => ?_)
    refine lv_iconst (v := 0) hx hb dX12_isWordAt_29 (by decide) ?_
    refine lv_istore (lv' := [(5, .int 0), (4, .int s0), (0, .ref a_this), (1, .int p1), (2, .int p2), (3, .int v3)]) hx hb dX12_isWordAt_30 hl (by decide) rfl (fun ls hl => ?_)
    obtain ⟨n_32, hw⟩ := hw
    exact B32  n_32 v3 s0 0 V (lv_sub hl [2, 3, 4, 5, 1, 0] rfl) hw
  refine lv_aload_n hx hb dX12_isWordAt_0 rfl (lv_at hl 0 rfl) ?_
  refine kget F V 8 1 0 rfl rfl iX12_isWordAt_X12 fX12_isWordAt_7 (by decide) rfl rfl dX12_isWordAt_1 ?_
  refine lv_iload_n hx hb dX12_isWordAt_4 rfl (lv_at hl 1 rfl) ?_
  refine kSi0n (rest := [.ref a_this_z]) F hl V (kX12_entryAt l g p1 _ hw) gX12_isWordAt_X12_entryAt rfl 1 rfl hdX12_entryAt ⟨Nat.le_of_ble_eq_true rfl, Nat.le_of_ble_eq_true rfl⟩ ⟨Nat.le_of_ble_eq_true rfl, Nat.le_of_ble_eq_true rfl⟩ (Nat.le_of_ble_eq_true rfl) rfl dX12_isWordAt_5 (fun r_5 H locs hw V => ?_)
  refine lv_iconst (v := 5) hx hb dX12_isWordAt_8 (by decide) ?_
  refine lv_iadd hx hb dX12_isWordAt_9 ?_
  refine kiald F V 1 rfl hw.1 dX12_isWordAt_10 ?_
  have hw := hw.2
  refine lv_topi (fun v3_11 ev3_11 => ?_)
  have hw := hw v3_11 ev3_11
  refine lv_istore_n (lv' := [(3, .int v3_11), (0, .ref a_this), (1, .int p1), (2, .int p2)]) hx hb dX12_isWordAt_11 rfl hl (by decide) rfl (fun ls hl => ?_)
  refine lv_iload_n hx hb dX12_isWordAt_12 rfl (lv_at hl 3 rfl) ?_
  refine lv_iload_n hx hb dX12_isWordAt_13 rfl (lv_at hl 0 rfl) ?_
  refine lv_iadd hx hb dX12_isWordAt_14 ?_
  refine lv_aload_n hx hb dX12_isWordAt_15 rfl (lv_at hl 1 rfl) ?_
  refine kget F V 8 4 0 rfl rfl iX12_isWordAt_X12 fX12_isWordAt_121 (by decide) rfl rfl dX12_isWordAt_16 ?_
  refine lv_icmp_gt (tgt := 26) hx hb dX12_isWordAt_19 (by decide) (fun c_19 => ?_) (fun c_19 => ?_)
  · have hw := hw.1 c_19
    refine lv_iconst (v := 0) hx hb dX12_isWordAt_26 (by decide) ?_
    exact B27  v3_11 0 V (lv_sub hl [1, 2, 3, 0] rfl) hw
  · have hw := hw.2 c_19
    refine lv_iconst (v := 1) hx hb dX12_isWordAt_22 (by decide) ?_
    refine lv_goto (tgt := 27) hx hb dX12_isWordAt_23 (by decide) ?_
    exact B27  v3_11 1 V (lv_sub hl [1, 2, 3, 0] rfl) hw
theorem hdX12_strokesWith : yX12_strokesWith.cls = RX12 ∧ yX12_strokesWith.cls ≠ "java/lang/invoke/MethodHandle" ∧ yX12_strokesWith.cls ≠ "java/lang/invoke/VarHandle" ∧ (parseMethodDescriptor yX12_strokesWith.desc).map (fun d => d.parameters.length) = some 2 := by decide +kernel
theorem fX12_strokesWith_28 : Cond.fieldLink RX12 28 RX12 "fewest" "[I" ∈ wsX12_strokesWith := by decide +kernel
theorem iX12_strokesWith_X12 : ∀ w ∈ u_ws RX12 TX12 14, w ∈ wsX12_strokesWith := by decide +kernel
theorem fX12_strokesWith_7 : Cond.fieldLink RX12 7 RX12 "z" "[I" ∈ wsX12_strokesWith := by decide +kernel
def wX12_strokesWith_31 (z : Nat → Int32) (length : Int32) (text : Nat → Int32) (fewest : Nat → Int32) (p1 : Int32) (p2 : Int32) (P : Int32 → Prop) (s0 : Int32) : Prop := (¬ s0 = (-1) → wX12_entryAt p1 (fun r_47 => vp_in r_47 1317 ∧ P (s0 + (z r_47.toNatClampNeg)))) ∧ (s0 = (-1) → P (-1))
def wX12_strokesWith (z : Nat → Int32) (length : Int32) (text : Nat → Int32) (fewest : Nat → Int32) (p1 : Int32) (p2 : Int32) (P : Int32 → Prop) : Prop := wX12_isWordAt z length text p1 p2 (fun r_3 => (r_3 = 0 → wX12_strokesWith_31 z length text fewest p1 p2 P (-1)) ∧ (¬ (r_3 = 0) → wX12_entryAt p1 (fun r_19 => vp_in (r_19 + 5) 1317 ∧ vp_in (p2 + (z (r_19 + 5).toNatClampNeg)) 61 ∧ wX12_strokesWith_31 z length text fewest p1 p2 P (fewest (p2 + (z (r_19 + 5).toNatClampNeg)).toNatClampNeg))))
set_option maxHeartbeats 4000000 in
set_option maxRecDepth 100000 in
theorem kX12_strokesWith (l : Launch) (g : kT) (a_this : Nat) (a_this_z : Nat) (a_this_saved : Nat) (a_this_text : Nat) (a_this_line : Nat) (a_this_aside : Nat) (a_this_read : Nat) (a_this_fewest : Nat) (thrown : Int32) (z : Nat → Int32) (saves : Int32) (saved : Nat → Int32) (length : Int32) (text : Nat → Int32) (many : Int32) (line : Nat → Int32) (aside : Nat → Int32) (isWord : Int32) (entries : Int32) (rdA : Nat → Int32) (fewest : Nat → Int32) (h : Int64) (p1 : Int32) (p2 : Int32) (P : Int32 → Prop) (hw : wX12_strokesWith z length text fewest p1 p2 P) : Ki0 l g yX12_strokesWith wsX12_strokesWith 2 45 0 0 [.ref a_this, .int p1, .int p2] (gX12 g a_this a_this_z a_this_saved a_this_text a_this_line a_this_aside a_this_read a_this_fewest thrown z saves saved length text many line aside isWord entries rdA fewest h) P (gX12 g a_this a_this_z a_this_saved a_this_text a_this_line a_this_aside a_this_read a_this_fewest thrown z saves saved length text many line aside isWord entries rdA fewest h) := by
  refine Ki0.mk (cc := cX12_strokesWith) (nL := 4) (ty := .int) (by decide +kernel) rfl (Nat.le_of_ble_eq_true rfl) ?_
  intro p e s m below meth c A Q ls F hl V ret
  have hx := F.x
  have hb := F.b
  have hl : lv_has ls 4 [(0, .ref a_this), (1, .int p1), (2, .int p2)] := hl
  have B31 :  ∀ {H : Heap} {locs : List Loc} {ls : Array Slot} (s0 : Int32) (V : VW g A s.heap H locs (gX12 g a_this a_this_z a_this_saved a_this_text a_this_line a_this_aside a_this_read a_this_fewest thrown z saves saved length text many line aside isWord entries rdA fewest h)) (hl : lv_has ls 4 [(0, .ref a_this), (1, .int p1)]) (hw : wX12_strokesWith_31 z length text fewest p1 p2 P s0), W p l e (kR 2 45 0 0) s m ([.ref a_this, .int p1, .int p2] : List Value).toArray below meth c H locs 0 0 Q (F0 m 31 ls [.int s0]) := by
    intro  H locs ls s0 V hl hw
    refine lv_istore_n (lv' := [(3, .int s0), (0, .ref a_this), (1, .int p1)]) hx hb dX12_strokesWith_31 rfl hl (by decide) rfl (fun ls hl => ?_)
    refine lv_iload_n hx hb dX12_strokesWith_32 rfl (lv_at hl 0 rfl) ?_
    refine lv_iconst (v := (-1)) hx hb dX12_strokesWith_33 (by decide) ?_
    refine lv_icmp_ne (tgt := 41) hx hb dX12_strokesWith_34 (by decide) (fun c_34 => ?_) (fun c_34 => ?_)
    · have hw := hw.1 c_34
      refine lv_iload_n hx hb dX12_strokesWith_41 rfl (lv_at hl 0 rfl) ?_
      refine lv_aload_n hx hb dX12_strokesWith_42 rfl (lv_at hl 1 rfl) ?_
      refine kget F V 8 1 0 rfl rfl iX12_strokesWith_X12 fX12_strokesWith_7 (by decide) rfl rfl dX12_strokesWith_43 ?_
      refine lv_iload_n hx hb dX12_strokesWith_46 rfl (lv_at hl 2 rfl) ?_
      refine kSi0n (rest := [.ref a_this_z, .int s0]) F hl V (kX12_entryAt l g p1 _ hw) gX12_strokesWith_X12_entryAt rfl 1 rfl hdX12_entryAt ⟨Nat.le_of_ble_eq_true rfl, Nat.le_of_ble_eq_true rfl⟩ ⟨Nat.le_of_ble_eq_true rfl, Nat.le_of_ble_eq_true rfl⟩ (Nat.le_of_ble_eq_true rfl) rfl dX12_strokesWith_47 (fun r_47 H locs hw V => ?_)
      refine kiald F V 1 rfl hw.1 dX12_strokesWith_50 ?_
      have hw := hw.2
      refine lv_iadd hx hb dX12_strokesWith_51 ?_
      exact ret _ _ _ _ _ rfl dX12_strokesWith_52 V hw
    · have hw := hw.2 c_34
      refine lv_iconst (v := (-1)) hx hb dX12_strokesWith_37 (by decide) ?_
      refine lv_goto (tgt := 52) hx hb dX12_strokesWith_38 (by decide) ?_
      exact ret _ _ _ _ _ rfl dX12_strokesWith_52 V hw
  refine lv_aload_n hx hb dX12_strokesWith_0 rfl (lv_at hl 0 rfl) ?_
  refine lv_iload_n hx hb dX12_strokesWith_1 rfl (lv_at hl 1 rfl) ?_
  refine lv_iload_n hx hb dX12_strokesWith_2 rfl (lv_at hl 2 rfl) ?_
  refine kVi0 (rest := []) F hl V [0, 1, 2, 3, 4, 5, 6, 7] [] [0, 1, 2, 3, 4, 5, 6, 7] (gX12 g a_this a_this_z a_this_saved a_this_text a_this_line a_this_aside a_this_read a_this_fewest thrown z saves saved length text many line aside isWord entries rdA fewest h) a_this 8 0 rfl rfl (kX12_isWordAt l g a_this a_this_z a_this_saved a_this_text a_this_line a_this_aside a_this_read a_this_fewest thrown z saves saved length text many line aside isWord entries rdA fewest h p1 p2 _ hw) gX12_strokesWith_X12_isWordAt rfl 2 rfl hdX12_isWordAt rfl rfl (fun _ => rfl) rfl rfl rfl (by decide) ⟨Nat.le_of_ble_eq_true rfl, Nat.le_of_ble_eq_true rfl⟩ ⟨Nat.le_of_ble_eq_true rfl, Nat.le_of_ble_eq_true rfl⟩ (Nat.le_of_ble_eq_true rfl) rfl dX12_strokesWith_3 (fun r_3 H locs hw V => ?_)
  refine lv_if_eq (tgt := 30) hx hb dX12_strokesWith_6 (by decide) (fun c_6 => ?_) (fun c_6 => ?_)
  · have hw := hw.1 c_6
    refine lv_iconst (v := (-1)) hx hb dX12_strokesWith_30 (by decide) ?_
    exact B31  (-1) V (lv_sub hl [0, 1] rfl) hw
  · have hw := hw.2 c_6
    refine lv_aload_n hx hb dX12_strokesWith_9 rfl (lv_at hl 0 rfl) ?_
    refine kget F V 8 12 0 rfl rfl iX12_strokesWith_X12 fX12_strokesWith_28 (by decide) rfl rfl dX12_strokesWith_10 ?_
    refine lv_iload_n hx hb dX12_strokesWith_13 rfl (lv_at hl 2 rfl) ?_
    refine lv_aload_n hx hb dX12_strokesWith_14 rfl (lv_at hl 0 rfl) ?_
    refine kget F V 8 1 0 rfl rfl iX12_strokesWith_X12 fX12_strokesWith_7 (by decide) rfl rfl dX12_strokesWith_15 ?_
    refine lv_iload_n hx hb dX12_strokesWith_18 rfl (lv_at hl 1 rfl) ?_
    refine kSi0n (rest := [.ref a_this_z, .int p2, .ref a_this_fewest]) F hl V (kX12_entryAt l g p1 _ hw) gX12_strokesWith_X12_entryAt rfl 1 rfl hdX12_entryAt ⟨Nat.le_of_ble_eq_true rfl, Nat.le_of_ble_eq_true rfl⟩ ⟨Nat.le_of_ble_eq_true rfl, Nat.le_of_ble_eq_true rfl⟩ (Nat.le_of_ble_eq_true rfl) rfl dX12_strokesWith_19 (fun r_19 H locs hw V => ?_)
    refine lv_iconst (v := 5) hx hb dX12_strokesWith_22 (by decide) ?_
    refine lv_iadd hx hb dX12_strokesWith_23 ?_
    refine kiald F V 1 rfl hw.1 dX12_strokesWith_24 ?_
    have hw := hw.2
    refine lv_iadd hx hb dX12_strokesWith_25 ?_
    refine kiald F V 7 rfl hw.1 dX12_strokesWith_26 ?_
    have hw := hw.2
    refine lv_goto (tgt := 31) hx hb dX12_strokesWith_27 (by decide) ?_
    exact B31  (fewest (p2 + (z (r_19 + 5).toNatClampNeg)).toNatClampNeg) V (lv_sub hl [0, 1] rfl) hw
