theorem hdL_at : yL_at.cls ≠ "java/lang/invoke/MethodHandle" ∧ yL_at.cls ≠ "java/lang/invoke/VarHandle" ∧ (parseMethodDescriptor yL_at.desc).map (fun d => d.parameters.length) = some 2 := by decide +kernel
set_option maxHeartbeats 4000000 in
set_option maxRecDepth 100000 in
theorem kL_at (l : Launch) (g : kT) (p1 : Int32) (p2 : Int32) (P : Int32 → Prop) (hw : wL_at p1 p2 P) : Ki0 l g yL_at wsL_at 0 0 0 0 [.int p1, .int p2] [] P [] := by
  refine Ki0.mk (cc := cL_at) (nL := 2) (ty := .int) (by decide +kernel) rfl (Nat.le_of_ble_eq_true rfl) ?_
  intro p e s m below meth c A Q ls F hl V ret
  have hx := F.x
  have hb := F.b
  have hl : lv_has ls 2 [(0, .int p1), (1, .int p2)] := hl
  refine lv_iload_n hx hb dL_at_0 rfl (lv_at hl 0 rfl) ?_
  refine lv_iconst (v := 1) hx hb dL_at_1 (by decide) ?_
  refine lv_iushr hx hb dL_at_2 rfl ?_
  refine lv_iload_n hx hb dL_at_3 rfl (lv_at hl 1 rfl) ?_
  refine lv_irem hx hb dL_at_4 hw.1 ?_
  have hw := hw.2
  exact ret _ _ _ _ _ rfl dL_at_5 V hw
theorem hdL_size : yL_size.cls ≠ "java/lang/invoke/MethodHandle" ∧ yL_size.cls ≠ "java/lang/invoke/VarHandle" ∧ (parseMethodDescriptor yL_size.desc).map (fun d => d.parameters.length) = some 1 := by decide +kernel
set_option maxHeartbeats 4000000 in
set_option maxRecDepth 100000 in
theorem kL_size (l : Launch) (g : kT) (p1 : Int64) (P : Int32 → Prop) (hw : wL_size p1 P) : Ki0 l g yL_size wsL_size 0 0 0 0 [.long p1] [] P [] := by
  refine Ki0.mk (cc := cL_size) (nL := 5) (ty := .int) (by decide +kernel) rfl (Nat.le_of_ble_eq_true rfl) ?_
  intro p e s m below meth c A Q ls F hl V ret
  have hx := F.x
  have hb := F.b
  have hl : lv_has ls 5 [(0, .long p1)] := hl
  have B4 :  ∀ (n : Nat), ∀ {H : Heap} {locs : List Loc} {ls : Array Slot} (v2 : Int32) (v3 : Int64) (V : VW g A s.heap H locs []) (hl : lv_has ls 5 [(2, .int v2), (3, .long v3)]) (hw : wL_size_4 p1 P n v2 v3), W p l e (kR 0 0 0 0) s m ([.long p1] : List Value).toArray below meth c H locs 0 0 Q (F0 m 4 ls []) := by
    intro n
    induction n with
    | zero => intro _ _ _ _ _ V hl hw; exact hw.elim
    | succ n ih =>
      intro H locs ls v2 v3 V hl hw
      refine lv_lload_n hx hb dL_size_4 rfl (lv_at hl 1 rfl) ?_
      refine lv_lconst (v := 0) hx hb dL_size_5 (by decide) ?_
      refine W.lcmp hx hb dL_size_6 ?_
      refine lv_if_le (tgt := 21) hx hb dL_size_7 (by decide) (fun c_7 => ?_) (fun c_7 => ?_)
      · have hw := hw.1 c_7
        refine lv_iload_n hx hb dL_size_21 rfl (lv_at hl 0 rfl) ?_
        exact ret _ _ _ _ _ rfl dL_size_22 V hw
      · have hw := hw.2 c_7
        refine lv_iinc (v := v2 + 1) (lv' := [(2, .int (v2 + 1)), (3, .long v3)]) hx hb dL_size_10 hl (k := 0) rfl rfl (by decide) rfl (fun ls hl => ?_)
        refine lv_lload_n hx hb dL_size_13 rfl (lv_at hl 1 rfl) ?_
        refine lv_bipush (v := 7) hx hb dL_size_14 (by decide) ?_
        refine lv_lshr hx hb dL_size_16 rfl ?_
        refine lv_topl (fun v3_17 ev3_17 => ?_)
        have hw := hw v3_17 ev3_17
        refine lv_lstore_n (lv' := [(3, .long v3_17), (2, .int (v2 + 1))]) hx hb dL_size_17 rfl hl (by decide) rfl (fun ls hl => ?_)
        refine lv_goto (tgt := 4) hx hb dL_size_18 (by decide) ?_
        exact ih (v2 + 1) v3_17 V (lv_sub hl [1, 0] rfl) hw
  refine lv_iconst (v := 0) hx hb dL_size_0 (by decide) ?_
  refine lv_istore_n (lv' := [(2, .int 0), (0, .long p1)]) hx hb dL_size_1 rfl hl (by decide) rfl (fun ls hl => ?_)
  refine lv_lload_n hx hb dL_size_2 rfl (lv_at hl 1 rfl) ?_
  refine lv_lstore_n (lv' := [(3, .long p1), (2, .int 0), (0, .long p1)]) hx hb dL_size_3 rfl hl (by decide) rfl (fun ls hl => ?_)
  obtain ⟨n_4, hw⟩ := hw
  exact B4  n_4 0 p1 V (lv_sub hl [1, 0] rfl) hw
theorem hdL_letter : yL_letter.cls ≠ "java/lang/invoke/MethodHandle" ∧ yL_letter.cls ≠ "java/lang/invoke/VarHandle" ∧ (parseMethodDescriptor yL_letter.desc).map (fun d => d.parameters.length) = some 1 := by decide +kernel
set_option maxHeartbeats 4000000 in
set_option maxRecDepth 100000 in
theorem kL_letter (l : Launch) (g : kT) (p1 : Int32) (P : Int32 → Prop) (hw : wL_letter p1 P) : Ki0 l g yL_letter wsL_letter 0 0 0 0 [.int p1] [] P [] := by
  refine Ki0.mk (cc := cL_letter) (nL := 1) (ty := .int) (by decide +kernel) rfl (Nat.le_of_ble_eq_true rfl) ?_
  intro p e s m below meth c A Q ls F hl V ret
  have hx := F.x
  have hb := F.b
  have hl : lv_has ls 1 [(0, .int p1)] := hl
  refine lv_iload_n hx hb dL_letter_0 rfl (lv_at hl 0 rfl) ?_
  refine lv_iconst (v := 4) hx hb dL_letter_1 (by decide) ?_
  refine lv_icmp_ge (tgt := 39) hx hb dL_letter_2 (by decide) (fun c_2 => ?_) (fun c_2 => ?_)
  · have hw := hw.1 c_2
    refine lv_iload_n hx hb dL_letter_39 rfl (lv_at hl 0 rfl) ?_
    refine lv_bipush (v := 8) hx hb dL_letter_40 (by decide) ?_
    refine lv_icmp_ge (tgt := 81) hx hb dL_letter_42 (by decide) (fun c_42 => ?_) (fun c_42 => ?_)
    · have hw := hw.1 c_42
      refine lv_iload_n hx hb dL_letter_81 rfl (lv_at hl 0 rfl) ?_
      refine lv_bipush (v := 8) hx hb dL_letter_82 (by decide) ?_
      refine lv_icmp_ne (tgt := 92) hx hb dL_letter_84 (by decide) (fun c_84 => ?_) (fun c_84 => ?_)
      · have hw := hw.1 c_84
        refine lv_iload_n hx hb dL_letter_92 rfl (lv_at hl 0 rfl) ?_
        refine lv_bipush (v := 9) hx hb dL_letter_93 (by decide) ?_
        refine lv_icmp_ne (tgt := 103) hx hb dL_letter_95 (by decide) (fun c_95 => ?_) (fun c_95 => ?_)
        · have hw := hw.1 c_95
          refine lv_iload_n hx hb dL_letter_103 rfl (lv_at hl 0 rfl) ?_
          refine lv_bipush (v := 10) hx hb dL_letter_104 (by decide) ?_
          refine lv_icmp_ne (tgt := 114) hx hb dL_letter_106 (by decide) (fun c_106 => ?_) (fun c_106 => ?_)
          · have hw := hw.1 c_106
            refine lv_bipush (v := 71) hx hb dL_letter_114 (by decide) ?_
            exact ret _ _ _ _ _ rfl dL_letter_116 V hw
          · have hw := hw.2 c_106
            refine lv_bipush (v := 66) hx hb dL_letter_109 (by decide) ?_
            refine lv_goto (tgt := 116) hx hb dL_letter_111 (by decide) ?_
            exact ret _ _ _ _ _ rfl dL_letter_116 V hw
        · have hw := hw.2 c_95
          refine lv_bipush (v := 82) hx hb dL_letter_98 (by decide) ?_
          refine lv_goto (tgt := 116) hx hb dL_letter_100 (by decide) ?_
          exact ret _ _ _ _ _ rfl dL_letter_116 V hw
      · have hw := hw.2 c_84
        refine lv_bipush (v := 70) hx hb dL_letter_87 (by decide) ?_
        refine lv_goto (tgt := 116) hx hb dL_letter_89 (by decide) ?_
        exact ret _ _ _ _ _ rfl dL_letter_116 V hw
    · have hw := hw.2 c_42
      refine lv_iload_n hx hb dL_letter_45 rfl (lv_at hl 0 rfl) ?_
      refine lv_iconst (v := 4) hx hb dL_letter_46 (by decide) ?_
      refine lv_icmp_ne (tgt := 55) hx hb dL_letter_47 (by decide) (fun c_47 => ?_) (fun c_47 => ?_)
      · have hw := hw.1 c_47
        refine lv_iload_n hx hb dL_letter_55 rfl (lv_at hl 0 rfl) ?_
        refine lv_iconst (v := 5) hx hb dL_letter_56 (by decide) ?_
        refine lv_icmp_ne (tgt := 65) hx hb dL_letter_57 (by decide) (fun c_57 => ?_) (fun c_57 => ?_)
        · have hw := hw.1 c_57
          refine lv_iload_n hx hb dL_letter_65 rfl (lv_at hl 0 rfl) ?_
          refine lv_bipush (v := 6) hx hb dL_letter_66 (by decide) ?_
          refine lv_icmp_ne (tgt := 76) hx hb dL_letter_68 (by decide) (fun c_68 => ?_) (fun c_68 => ?_)
          · have hw := hw.1 c_68
            refine lv_bipush (v := 85) hx hb dL_letter_76 (by decide) ?_
            refine lv_goto (tgt := 116) hx hb dL_letter_78 (by decide) ?_
            exact ret _ _ _ _ _ rfl dL_letter_116 V hw
          · have hw := hw.2 c_68
            refine lv_bipush (v := 69) hx hb dL_letter_71 (by decide) ?_
            refine lv_goto (tgt := 116) hx hb dL_letter_73 (by decide) ?_
            exact ret _ _ _ _ _ rfl dL_letter_116 V hw
        · have hw := hw.2 c_57
          refine lv_bipush (v := 79) hx hb dL_letter_60 (by decide) ?_
          refine lv_goto (tgt := 116) hx hb dL_letter_62 (by decide) ?_
          exact ret _ _ _ _ _ rfl dL_letter_116 V hw
      · have hw := hw.2 c_47
        refine lv_bipush (v := 65) hx hb dL_letter_50 (by decide) ?_
        refine lv_goto (tgt := 116) hx hb dL_letter_52 (by decide) ?_
        exact ret _ _ _ _ _ rfl dL_letter_116 V hw
  · have hw := hw.2 c_2
    refine lv_iload_n hx hb dL_letter_5 rfl (lv_at hl 0 rfl) ?_
    refine lv_if_ne (tgt := 14) hx hb dL_letter_6 (by decide) (fun c_6 => ?_) (fun c_6 => ?_)
    · have hw := hw.1 c_6
      refine lv_iload_n hx hb dL_letter_14 rfl (lv_at hl 0 rfl) ?_
      refine lv_iconst (v := 1) hx hb dL_letter_15 (by decide) ?_
      refine lv_icmp_ne (tgt := 24) hx hb dL_letter_16 (by decide) (fun c_16 => ?_) (fun c_16 => ?_)
      · have hw := hw.1 c_16
        refine lv_iload_n hx hb dL_letter_24 rfl (lv_at hl 0 rfl) ?_
        refine lv_iconst (v := 2) hx hb dL_letter_25 (by decide) ?_
        refine lv_icmp_ne (tgt := 34) hx hb dL_letter_26 (by decide) (fun c_26 => ?_) (fun c_26 => ?_)
        · have hw := hw.1 c_26
          refine lv_bipush (v := 72) hx hb dL_letter_34 (by decide) ?_
          refine lv_goto (tgt := 116) hx hb dL_letter_36 (by decide) ?_
          exact ret _ _ _ _ _ rfl dL_letter_116 V hw
        · have hw := hw.2 c_26
          refine lv_bipush (v := 80) hx hb dL_letter_29 (by decide) ?_
          refine lv_goto (tgt := 116) hx hb dL_letter_31 (by decide) ?_
          exact ret _ _ _ _ _ rfl dL_letter_116 V hw
      · have hw := hw.2 c_16
        refine lv_bipush (v := 84) hx hb dL_letter_19 (by decide) ?_
        refine lv_goto (tgt := 116) hx hb dL_letter_21 (by decide) ?_
        exact ret _ _ _ _ _ rfl dL_letter_116 V hw
    · have hw := hw.2 c_6
      refine lv_bipush (v := 83) hx hb dL_letter_9 (by decide) ?_
      refine lv_goto (tgt := 116) hx hb dL_letter_11 (by decide) ?_
      exact ret _ _ _ _ _ rfl dL_letter_116 V hw
theorem hdL_spelled : yL_spelled.cls ≠ "java/lang/invoke/MethodHandle" ∧ yL_spelled.cls ≠ "java/lang/invoke/VarHandle" ∧ (parseMethodDescriptor yL_spelled.desc).map (fun d => d.parameters.length) = some 1 := by decide +kernel
set_option maxHeartbeats 4000000 in
set_option maxRecDepth 100000 in
theorem kL_spelled (l : Launch) (g : kT) (p1 : Int32) (P : Int64 → Prop) (hw : wL_spelled p1 P) : Kl0 l g yL_spelled wsL_spelled 1 20 0 0 [.int p1] [] P [] := by
  refine Kl0.mk (cc := cL_spelled) (nL := 5) (by decide +kernel) rfl (Nat.le_of_ble_eq_true rfl) ?_
  intro p e s m below meth c A Q ls F hl V ret
  have hx := F.x
  have hb := F.b
  have hl : lv_has ls 5 [(0, .int p1)] := hl
  have B41 : ∀ (K7 : Int64 → Int32 → Int32 → Prop) (k7 : ∀ {H : Heap} {locs : List Loc} {ls : Array Slot} (v1 : Int64) (v3 : Int32) (v4 : Int32), VW g A s.heap H locs [] → lv_has ls 5 [(0, .int p1), (1, .long v1), (3, .int v3), (4, .int v4)] → K7 v1 v3 v4 → W p l e (kR 1 20 0 0) s m ([.int p1] : List Value).toArray below meth c H locs 0 0 Q (F0 m 7 ls [])), ∀ {H : Heap} {locs : List Loc} {ls : Array Slot} (v1 : Int64) (v3 : Int32) (v4 : Int32) (V : VW g A s.heap H locs []) (hl : lv_has ls 5 [(0, .int p1), (1, .long v1), (3, .int v3), (4, .int v4)]) (hw : wL_spelled_41 p1 K7 P v1 v3 v4), W p l e (kR 1 20 0 0) s m ([.int p1] : List Value).toArray below meth c H locs 0 0 Q (F0 m 41 ls []) := by
    intro K7 k7 H locs ls v1 v3 v4 V hl hw
    refine lv_iinc (v := v4 + 1) (lv' := [(4, .int (v4 + 1)), (0, .int p1), (1, .long v1), (3, .int v3)]) hx hb dL_spelled_41 hl (k := 3) rfl rfl (by decide) rfl (fun ls hl => ?_)
    refine lv_goto (tgt := 7) hx hb dL_spelled_44 (by decide) ?_
    exact k7 v1 v3 (v4 + 1) V (lv_sub hl [1, 2, 3, 0] rfl) hw
  have B7 :  ∀ (n : Nat), ∀ {H : Heap} {locs : List Loc} {ls : Array Slot} (v1 : Int64) (v3 : Int32) (v4 : Int32) (V : VW g A s.heap H locs []) (hl : lv_has ls 5 [(0, .int p1), (1, .long v1), (3, .int v3), (4, .int v4)]) (hw : wL_spelled_7 p1 P n v1 v3 v4), W p l e (kR 1 20 0 0) s m ([.int p1] : List Value).toArray below meth c H locs 0 0 Q (F0 m 7 ls []) := by
    intro n
    induction n with
    | zero => intro _ _ _ _ _ _ V hl hw; exact hw.elim
    | succ n ih =>
      intro H locs ls v1 v3 v4 V hl hw
      refine lv_iload hx hb dL_spelled_7 (lv_at hl 3 rfl) ?_
      refine lv_bipush (v := 12) hx hb dL_spelled_9 (by decide) ?_
      refine lv_icmp_ge (tgt := 47) hx hb dL_spelled_11 (by decide) (fun c_11 => ?_) (fun c_11 => ?_)
      · have hw := hw.1 c_11
        refine lv_lload_n hx hb dL_spelled_47 rfl (lv_at hl 1 rfl) ?_
        exact ret _ _ _ _ _ dL_spelled_48 V hw
      · have hw := hw.2 c_11
        refine lv_iload_n hx hb dL_spelled_14 rfl (lv_at hl 0 rfl) ?_
        refine lv_iload hx hb dL_spelled_15 (lv_at hl 3 rfl) ?_
        refine lv_ishr hx hb dL_spelled_17 ?_
        refine lv_iconst (v := 1) hx hb dL_spelled_18 (by decide) ?_
        refine lv_iand hx hb dL_spelled_19 ?_
        refine lv_iconst (v := 1) hx hb dL_spelled_20 (by decide) ?_
        refine lv_icmp_ne (tgt := 41) hx hb dL_spelled_21 (by decide) (fun c_21 => ?_) (fun c_21 => ?_)
        · have hw := hw.1 c_21
          exact B41 (wL_spelled_7 p1 P n) ih v1 v3 v4 V hl hw
        · have hw := hw.2 c_21
          refine lv_lload_n hx hb dL_spelled_24 rfl (lv_at hl 1 rfl) ?_
          refine lv_iload hx hb dL_spelled_25 (lv_at hl 3 rfl) ?_
          refine kSi0n (rest := [.long v1]) F hl V (kL_letter l g v4 _ hw) gL_spelled_L_letter rfl 1 rfl hdL_letter ⟨Nat.le_of_ble_eq_true rfl, Nat.le_of_ble_eq_true rfl⟩ ⟨Nat.le_of_ble_eq_true rfl, Nat.le_of_ble_eq_true rfl⟩ (Nat.le_of_ble_eq_true rfl) rfl dL_spelled_27 (fun r_27 H locs hw V => ?_)
          refine lv_i2l hx hb dL_spelled_30 rfl ?_
          refine lv_bipush (v := 7) hx hb dL_spelled_31 (by decide) ?_
          refine lv_iload_n hx hb dL_spelled_33 rfl (lv_at hl 2 rfl) ?_
          refine lv_iinc (v := v3 + 1) (lv' := [(3, .int (v3 + 1)), (0, .int p1), (1, .long v1), (4, .int v4)]) hx hb dL_spelled_34 hl (k := 2) rfl rfl (by decide) rfl (fun ls hl => ?_)
          refine lv_imul hx hb dL_spelled_37 ?_
          refine lv_lshl hx hb dL_spelled_38 rfl ?_
          refine lv_lor hx hb dL_spelled_39 ?_
          refine lv_topl (fun v1_40 ev1_40 => ?_)
          have hw := hw v1_40 ev1_40
          refine lv_lstore_n (lv' := [(1, .long v1_40), (3, .int (v3 + 1)), (0, .int p1), (4, .int v4)]) hx hb dL_spelled_40 rfl hl (by decide) rfl (fun ls hl => ?_)
          exact B41 (wL_spelled_7 p1 P n) ih v1_40 (v3 + 1) v4 V (lv_sub hl [2, 0, 1, 3] rfl) hw
  refine lv_lconst (v := 0) hx hb dL_spelled_0 (by decide) ?_
  refine lv_lstore_n (lv' := [(1, .long 0), (0, .int p1)]) hx hb dL_spelled_1 rfl hl (by decide) rfl (fun ls hl => ?_)
  refine lv_iconst (v := 0) hx hb dL_spelled_2 (by decide) ?_
  refine lv_istore_n (lv' := [(3, .int 0), (1, .long 0), (0, .int p1)]) hx hb dL_spelled_3 rfl hl (by decide) rfl (fun ls hl => ?_)
  refine lv_iconst (v := 0) hx hb dL_spelled_4 (by decide) ?_
  refine lv_istore (lv' := [(4, .int 0), (3, .int 0), (1, .long 0), (0, .int p1)]) hx hb dL_spelled_5 hl (by decide) rfl (fun ls hl => ?_)
  obtain ⟨n_7, hw⟩ := hw
  exact B7  n_7 0 0 0 V (lv_sub hl [3, 2, 1, 0] rfl) hw
theorem hdL_goesOn : yL_goesOn.cls ≠ "java/lang/invoke/MethodHandle" ∧ yL_goesOn.cls ≠ "java/lang/invoke/VarHandle" ∧ (parseMethodDescriptor yL_goesOn.desc).map (fun d => d.parameters.length) = some 5 := by decide +kernel
set_option maxHeartbeats 4000000 in
set_option maxRecDepth 100000 in
theorem kL_goesOn (l : Launch) (g : kT) (a_p4 : Nat) (a_p5 : Nat) (p4_n : Nat) (p5_n : Nat) (p4 : Nat → Int32) (p5 : Nat → Int32) (p1 : Int32) (p2 : Int32) (p3 : Int32) (P : Int32 → Prop) (hw : wL_goesOn p4_n p5_n p4 p5 p1 p2 p3 P) : Ki0 l g yL_goesOn wsL_goesOn 0 0 0 0 [.int p1, .int p2, .int p3, .ref a_p4, .ref a_p5] (gAI g a_p4 p4_n p4 ++ (gAI g a_p5 p5_n p5)) P (gAI g a_p4 p4_n p4 ++ (gAI g a_p5 p5_n p5)) := by
  refine Ki0.mk (cc := cL_goesOn) (nL := 6) (ty := .boolean) (by decide +kernel) rfl (Nat.le_of_ble_eq_true rfl) ?_
  intro p e s m below meth c A Q ls F hl V ret
  have hx := F.x
  have hb := F.b
  have hl : lv_has ls 6 [(0, .int p1), (1, .int p2), (2, .int p3), (3, .ref a_p4), (4, .ref a_p5)] := hl
  have B17 :  ∀ (n : Nat), ∀ {H : Heap} {locs : List Loc} {ls : Array Slot} (v5 : Int32) (V : VW g A s.heap H locs (gAI g a_p4 p4_n p4 ++ (gAI g a_p5 p5_n p5))) (hl : lv_has ls 6 [(0, .int p1), (1, .int p2), (3, .ref a_p4), (4, .ref a_p5), (5, .int v5)]) (hw : wL_goesOn_17 p4_n p5_n p4 p5 p1 p2 p3 P n v5), W p l e (kR 0 0 0 0) s m ([.int p1, .int p2, .int p3, .ref a_p4, .ref a_p5] : List Value).toArray below meth c H locs 0 0 Q (F0 m 17 ls []) := by
    intro n
    induction n with
    | zero => intro _ _ _ _ V hl hw; exact hw.elim
    | succ n ih =>
      intro H locs ls v5 V hl hw
      refine lv_iload hx hb dL_goesOn_17 (lv_at hl 4 rfl) ?_
      refine lv_aload hx hb dL_goesOn_19 (lv_at hl 3 rfl) ?_
      refine lv_iconst (v := 5) hx hb dL_goesOn_21 (by decide) ?_
      refine lv_iload_n hx hb dL_goesOn_22 rfl (lv_at hl 0 rfl) ?_
      refine lv_imul hx hb dL_goesOn_23 ?_
      refine kiald F V 1 rfl hw.1 dL_goesOn_24 ?_
      have hw := hw.2
      refine lv_icmp_ge (tgt := 56) hx hb dL_goesOn_25 (by decide) (fun c_25 => ?_) (fun c_25 => ?_)
      · have hw := hw.1 c_25
        refine lv_iconst (v := 1) hx hb dL_goesOn_56 (by decide) ?_
        exact ret _ _ _ _ _ rfl dL_goesOn_57 V hw
      · have hw := hw.2 c_25
        refine lv_aload_n hx hb dL_goesOn_28 rfl (lv_at hl 2 rfl) ?_
        refine lv_iload_n hx hb dL_goesOn_29 rfl (lv_at hl 1 rfl) ?_
        refine lv_iload hx hb dL_goesOn_30 (lv_at hl 4 rfl) ?_
        refine lv_iadd hx hb dL_goesOn_32 ?_
        refine kiald F V 0 rfl hw.1 dL_goesOn_33 ?_
        have hw := hw.2
        refine lv_aload hx hb dL_goesOn_34 (lv_at hl 3 rfl) ?_
        refine lv_iconst (v := 5) hx hb dL_goesOn_36 (by decide) ?_
        refine lv_iload_n hx hb dL_goesOn_37 rfl (lv_at hl 0 rfl) ?_
        refine lv_imul hx hb dL_goesOn_38 ?_
        refine lv_iconst (v := 1) hx hb dL_goesOn_39 (by decide) ?_
        refine lv_iadd hx hb dL_goesOn_40 ?_
        refine lv_iload hx hb dL_goesOn_41 (lv_at hl 4 rfl) ?_
        refine lv_iadd hx hb dL_goesOn_43 ?_
        refine kiald F V 1 rfl hw.1 dL_goesOn_44 ?_
        have hw := hw.2
        refine lv_icmp_eq (tgt := 50) hx hb dL_goesOn_45 (by decide) (fun c_45 => ?_) (fun c_45 => ?_)
        · have hw := hw.1 c_45
          refine lv_iinc (v := v5 + 1) (lv' := [(5, .int (v5 + 1)), (0, .int p1), (1, .int p2), (3, .ref a_p4), (4, .ref a_p5)]) hx hb dL_goesOn_50 hl (k := 4) rfl rfl (by decide) rfl (fun ls hl => ?_)
          refine lv_goto (tgt := 17) hx hb dL_goesOn_53 (by decide) ?_
          exact ih (v5 + 1) V (lv_sub hl [1, 2, 3, 4, 0] rfl) hw
        · have hw := hw.2 c_45
          refine lv_iconst (v := 0) hx hb dL_goesOn_48 (by decide) ?_
          exact ret _ _ _ _ _ rfl dL_goesOn_49 V hw
  refine lv_iload_n hx hb dL_goesOn_0 rfl (lv_at hl 1 rfl) ?_
  refine lv_aload hx hb dL_goesOn_1 (lv_at hl 4 rfl) ?_
  refine lv_iconst (v := 5) hx hb dL_goesOn_3 (by decide) ?_
  refine lv_iload_n hx hb dL_goesOn_4 rfl (lv_at hl 0 rfl) ?_
  refine lv_imul hx hb dL_goesOn_5 ?_
  refine kiald F V 1 rfl hw.1 dL_goesOn_6 ?_
  have hw := hw.2
  refine lv_iadd hx hb dL_goesOn_7 ?_
  refine lv_iload_n hx hb dL_goesOn_8 rfl (lv_at hl 2 rfl) ?_
  refine lv_icmp_le (tgt := 14) hx hb dL_goesOn_9 (by decide) (fun c_9 => ?_) (fun c_9 => ?_)
  · have hw := hw.1 c_9
    refine lv_iconst (v := 0) hx hb dL_goesOn_14 (by decide) ?_
    refine lv_istore (lv' := [(5, .int 0), (0, .int p1), (1, .int p2), (2, .int p3), (3, .ref a_p4), (4, .ref a_p5)]) hx hb dL_goesOn_15 hl (by decide) rfl (fun ls hl => ?_)
    obtain ⟨n_17, hw⟩ := hw
    exact B17  n_17 0 V (lv_sub hl [1, 2, 4, 5, 0] rfl) hw
  · have hw := hw.2 c_9
    refine lv_iconst (v := 0) hx hb dL_goesOn_12 (by decide) ?_
    exact ret _ _ _ _ _ rfl dL_goesOn_13 V hw
