theorem hdL_clash : yL_clash.cls ≠ "java/lang/invoke/MethodHandle" ∧ yL_clash.cls ≠ "java/lang/invoke/VarHandle" ∧ (parseMethodDescriptor yL_clash.desc).map (fun d => d.parameters.length) = some 4 := by decide +kernel
set_option maxHeartbeats 4000000 in
set_option maxRecDepth 100000 in
theorem kL_clash (l : Launch) (g : kT) (a_p2 : Nat) (a_p3 : Nat) (a_p4 : Nat) (p2_n : Nat) (p3_n : Nat) (p4_n : Nat) (p2 : Nat → Int32) (p3 : Nat → Int64) (p4 : Nat → Int32) (p1 : Int32) (P : Int32 → Prop) (hw : wL_clash p2_n p3_n p4_n p2 p3 p4 p1 P) : Ki0 l g yL_clash wsL_clash 1 24 0 0 [.int p1, .ref a_p2, .ref a_p3, .ref a_p4] (gAI g a_p2 p2_n p2 ++ (gAJ g a_p3 p3_n p3 ++ (gAI g a_p4 p4_n p4))) P (gAI g a_p2 p2_n p2 ++ (gAJ g a_p3 p3_n p3 ++ (gAI g a_p4 p4_n p4))) := by
  refine Ki0.mk (cc := cL_clash) (nL := 7) (ty := .int) (by decide +kernel) rfl (Nat.le_of_ble_eq_true rfl) ?_
  intro p e s m below meth c A Q ls F hl V ret
  have hx := F.x
  have hb := F.b
  have hl : lv_has ls 7 [(0, .int p1), (1, .ref a_p2), (2, .ref a_p3), (3, .ref a_p4)] := hl
  have B149 : ∀ (K6 : Int32 → Int32 → Prop) (k6 : ∀ {H : Heap} {locs : List Loc} {ls : Array Slot} (v4 : Int32) (v5 : Int32), VW g A s.heap H locs (gAI g a_p2 p2_n p2 ++ (gAJ g a_p3 p3_n p3 ++ (gAI g a_p4 p4_n p4))) → lv_has ls 7 [(0, .int p1), (1, .ref a_p2), (2, .ref a_p3), (3, .ref a_p4), (4, .int v4), (5, .int v5)] → K6 v4 v5 → W p l e (kR 1 24 0 0) s m ([.int p1, .ref a_p2, .ref a_p3, .ref a_p4] : List Value).toArray below meth c H locs 0 0 Q (F0 m 6 ls [])) (K87 : Int32 → Int32 → Int32 → Prop) (k87 : ∀ {H : Heap} {locs : List Loc} {ls : Array Slot} (v4 : Int32) (v5 : Int32) (v6 : Int32), VW g A s.heap H locs (gAI g a_p2 p2_n p2 ++ (gAJ g a_p3 p3_n p3 ++ (gAI g a_p4 p4_n p4))) → lv_has ls 7 [(0, .int p1), (1, .ref a_p2), (2, .ref a_p3), (3, .ref a_p4), (4, .int v4), (5, .int v5), (6, .int v6)] → K87 v4 v5 v6 → W p l e (kR 1 24 0 0) s m ([.int p1, .ref a_p2, .ref a_p3, .ref a_p4] : List Value).toArray below meth c H locs 0 0 Q (F0 m 87 ls [])), ∀ {H : Heap} {locs : List Loc} {ls : Array Slot} (v4 : Int32) (v5 : Int32) (v6 : Int32) (V : VW g A s.heap H locs (gAI g a_p2 p2_n p2 ++ (gAJ g a_p3 p3_n p3 ++ (gAI g a_p4 p4_n p4)))) (hl : lv_has ls 7 [(0, .int p1), (1, .ref a_p2), (2, .ref a_p3), (3, .ref a_p4), (4, .int v4), (5, .int v5), (6, .int v6)]) (hw : wL_clash_149 p2_n p3_n p4_n p2 p3 p4 p1 K6 K87 P v4 v5 v6), W p l e (kR 1 24 0 0) s m ([.int p1, .ref a_p2, .ref a_p3, .ref a_p4] : List Value).toArray below meth c H locs 0 0 Q (F0 m 149 ls []) := by
    intro K6 k6 K87 k87 H locs ls v4 v5 v6 V hl hw
    refine lv_iinc (v := v6 + 1) (lv' := [(6, .int (v6 + 1)), (0, .int p1), (1, .ref a_p2), (2, .ref a_p3), (3, .ref a_p4), (4, .int v4), (5, .int v5)]) hx hb dL_clash_149 hl (k := 6) rfl rfl (by decide) rfl (fun ls hl => ?_)
    refine lv_goto (tgt := 87) hx hb dL_clash_152 (by decide) ?_
    exact k87 v4 v5 (v6 + 1) V (lv_sub hl [1, 2, 3, 4, 5, 6, 0] rfl) hw
  have B87 : ∀ (K6 : Int32 → Int32 → Prop) (k6 : ∀ {H : Heap} {locs : List Loc} {ls : Array Slot} (v4 : Int32) (v5 : Int32), VW g A s.heap H locs (gAI g a_p2 p2_n p2 ++ (gAJ g a_p3 p3_n p3 ++ (gAI g a_p4 p4_n p4))) → lv_has ls 7 [(0, .int p1), (1, .ref a_p2), (2, .ref a_p3), (3, .ref a_p4), (4, .int v4), (5, .int v5)] → K6 v4 v5 → W p l e (kR 1 24 0 0) s m ([.int p1, .ref a_p2, .ref a_p3, .ref a_p4] : List Value).toArray below meth c H locs 0 0 Q (F0 m 6 ls [])), ∀ (n : Nat), ∀ {H : Heap} {locs : List Loc} {ls : Array Slot} (v4 : Int32) (v5 : Int32) (v6 : Int32) (V : VW g A s.heap H locs (gAI g a_p2 p2_n p2 ++ (gAJ g a_p3 p3_n p3 ++ (gAI g a_p4 p4_n p4)))) (hl : lv_has ls 7 [(0, .int p1), (1, .ref a_p2), (2, .ref a_p3), (3, .ref a_p4), (4, .int v4), (5, .int v5), (6, .int v6)]) (hw : wL_clash_87 p2_n p3_n p4_n p2 p3 p4 p1 K6 P n v4 v5 v6), W p l e (kR 1 24 0 0) s m ([.int p1, .ref a_p2, .ref a_p3, .ref a_p4] : List Value).toArray below meth c H locs 0 0 Q (F0 m 87 ls []) := by
    intro K6 k6
    intro n
    induction n with
    | zero => intro _ _ _ _ _ _ V hl hw; exact hw.elim
    | succ n ih =>
      intro H locs ls v4 v5 v6 V hl hw
      refine lv_iload hx hb dL_clash_87 (lv_at hl 6 rfl) ?_
      refine lv_aload_n hx hb dL_clash_89 rfl (lv_at hl 3 rfl) ?_
      refine lv_iconst (v := 0) hx hb dL_clash_90 (by decide) ?_
      refine kiald F V 2 rfl hw.1 dL_clash_91 ?_
      have hw := hw.2
      refine lv_icmp_ge (tgt := 155) hx hb dL_clash_92 (by decide) (fun c_92 => ?_) (fun c_92 => ?_)
      · have hw := hw.1 c_92
        refine lv_iinc (v := v5 + 1) (lv' := [(5, .int (v5 + 1)), (0, .int p1), (1, .ref a_p2), (2, .ref a_p3), (3, .ref a_p4), (4, .int v4), (6, .int v6)]) hx hb dL_clash_155 hl (k := 5) rfl rfl (by decide) rfl (fun ls hl => ?_)
        refine lv_goto (tgt := 6) hx hb dL_clash_158 (by decide) ?_
        exact k6 v4 (v5 + 1) V (lv_sub hl [1, 2, 3, 4, 5, 0] rfl) hw
      · have hw := hw.2 c_92
        refine lv_aload_n hx hb dL_clash_95 rfl (lv_at hl 1 rfl) ?_
        refine lv_iconst (v := 5) hx hb dL_clash_96 (by decide) ?_
        refine lv_iload hx hb dL_clash_97 (lv_at hl 5 rfl) ?_
        refine lv_imul hx hb dL_clash_99 ?_
        refine kiald F V 0 rfl hw.1 dL_clash_100 ?_
        have hw := hw.2
        refine lv_aload_n hx hb dL_clash_101 rfl (lv_at hl 1 rfl) ?_
        refine lv_iconst (v := 5) hx hb dL_clash_102 (by decide) ?_
        refine lv_iload hx hb dL_clash_103 (lv_at hl 6 rfl) ?_
        refine lv_imul hx hb dL_clash_105 ?_
        refine kiald F V 0 rfl hw.1 dL_clash_106 ?_
        have hw := hw.2
        refine lv_iadd hx hb dL_clash_107 ?_
        refine lv_aload_n hx hb dL_clash_108 rfl (lv_at hl 1 rfl) ?_
        refine lv_iconst (v := 5) hx hb dL_clash_109 (by decide) ?_
        refine lv_iload_n hx hb dL_clash_110 rfl (lv_at hl 0 rfl) ?_
        refine lv_imul hx hb dL_clash_111 ?_
        refine kiald F V 0 rfl hw.1 dL_clash_112 ?_
        have hw := hw.2
        refine lv_icmp_ne (tgt := 149) hx hb dL_clash_113 (by decide) (fun c_113 => ?_) (fun c_113 => ?_)
        · have hw := hw.1 c_113
          exact B149 K6 k6 (wL_clash_87 p2_n p3_n p4_n p2 p3 p4 p1 K6 P n) ih v4 v5 v6 V hl hw
        · have hw := hw.2 c_113
          refine lv_iload_n hx hb dL_clash_116 rfl (lv_at hl 0 rfl) ?_
          refine lv_iconst (v := 0) hx hb dL_clash_117 (by decide) ?_
          refine lv_iload hx hb dL_clash_118 (lv_at hl 5 rfl) ?_
          refine lv_aload_n hx hb dL_clash_120 rfl (lv_at hl 1 rfl) ?_
          refine kSi0 (rest := []) F hl V [0] [1, 2] [2, 0, 1] (gAI g a_p2 p2_n p2 ++ (gAJ g a_p3 p3_n p3 ++ (gAI g a_p4 p4_n p4))) (kL_has l g a_p2 p2_n p2 p1 0 v5 _ hw) gL_clash_L_has rfl 4 rfl hdL_has rfl rfl (fun _ => rfl) rfl rfl rfl (by decide) ⟨Nat.le_of_ble_eq_true rfl, Nat.le_of_ble_eq_true rfl⟩ ⟨Nat.le_of_ble_eq_true rfl, Nat.le_of_ble_eq_true rfl⟩ (Nat.le_of_ble_eq_true rfl) rfl dL_clash_121 (fun r_121 H locs hw V => ?_)
          refine lv_if_eq (tgt := 149) hx hb dL_clash_124 (by decide) (fun c_124 => ?_) (fun c_124 => ?_)
          · have hw := hw.1 c_124
            exact B149 K6 k6 (wL_clash_87 p2_n p3_n p4_n p2 p3 p4 p1 K6 P n) ih v4 v5 v6 V hl hw
          · have hw := hw.2 c_124
            refine lv_iload_n hx hb dL_clash_127 rfl (lv_at hl 0 rfl) ?_
            refine lv_aload_n hx hb dL_clash_128 rfl (lv_at hl 1 rfl) ?_
            refine lv_iconst (v := 5) hx hb dL_clash_129 (by decide) ?_
            refine lv_iload hx hb dL_clash_130 (lv_at hl 5 rfl) ?_
            refine lv_imul hx hb dL_clash_132 ?_
            refine kiald F V 0 rfl hw.1 dL_clash_133 ?_
            have hw := hw.2
            refine lv_iload hx hb dL_clash_134 (lv_at hl 6 rfl) ?_
            refine lv_aload_n hx hb dL_clash_136 rfl (lv_at hl 1 rfl) ?_
            refine kSi0 (rest := []) F hl V [0] [1, 2] [2, 0, 1] (gAI g a_p2 p2_n p2 ++ (gAJ g a_p3 p3_n p3 ++ (gAI g a_p4 p4_n p4))) (kL_has l g a_p2 p2_n p2 p1 (p2 (5 * v5).toNatClampNeg) v6 _ hw) gL_clash_L_has rfl 4 rfl hdL_has rfl rfl (fun _ => rfl) rfl rfl rfl (by decide) ⟨Nat.le_of_ble_eq_true rfl, Nat.le_of_ble_eq_true rfl⟩ ⟨Nat.le_of_ble_eq_true rfl, Nat.le_of_ble_eq_true rfl⟩ (Nat.le_of_ble_eq_true rfl) rfl dL_clash_137 (fun r_137 H locs hw V => ?_)
            refine lv_if_eq (tgt := 149) hx hb dL_clash_140 (by decide) (fun c_140 => ?_) (fun c_140 => ?_)
            · have hw := hw.1 c_140
              exact B149 K6 k6 (wL_clash_87 p2_n p3_n p4_n p2 p3 p4 p1 K6 P n) ih v4 v5 v6 V hl hw
            · have hw := hw.2 c_140
              refine lv_iload hx hb dL_clash_143 (lv_at hl 4 rfl) ?_
              refine lv_iconst (v := 2) hx hb dL_clash_145 (by decide) ?_
              refine lv_ior hx hb dL_clash_146 ?_
              refine lv_topi (fun v4_147 ev4_147 => ?_)
              have hw := hw v4_147 ev4_147
              refine lv_istore (lv' := [(4, .int v4_147), (0, .int p1), (1, .ref a_p2), (2, .ref a_p3), (3, .ref a_p4), (5, .int v5), (6, .int v6)]) hx hb dL_clash_147 hl (by decide) rfl (fun ls hl => ?_)
              exact B149 K6 k6 (wL_clash_87 p2_n p3_n p4_n p2 p3 p4 p1 K6 P n) ih v4_147 v5 v6 V (lv_sub hl [1, 2, 3, 4, 0, 5, 6] rfl) hw
  have B84 : ∀ (K6 : Int32 → Int32 → Prop) (k6 : ∀ {H : Heap} {locs : List Loc} {ls : Array Slot} (v4 : Int32) (v5 : Int32), VW g A s.heap H locs (gAI g a_p2 p2_n p2 ++ (gAJ g a_p3 p3_n p3 ++ (gAI g a_p4 p4_n p4))) → lv_has ls 7 [(0, .int p1), (1, .ref a_p2), (2, .ref a_p3), (3, .ref a_p4), (4, .int v4), (5, .int v5)] → K6 v4 v5 → W p l e (kR 1 24 0 0) s m ([.int p1, .ref a_p2, .ref a_p3, .ref a_p4] : List Value).toArray below meth c H locs 0 0 Q (F0 m 6 ls [])), ∀ {H : Heap} {locs : List Loc} {ls : Array Slot} (v4 : Int32) (v5 : Int32) (V : VW g A s.heap H locs (gAI g a_p2 p2_n p2 ++ (gAJ g a_p3 p3_n p3 ++ (gAI g a_p4 p4_n p4)))) (hl : lv_has ls 7 [(0, .int p1), (1, .ref a_p2), (2, .ref a_p3), (3, .ref a_p4), (4, .int v4), (5, .int v5)]) (hw : wL_clash_84 p2_n p3_n p4_n p2 p3 p4 p1 K6 P v4 v5), W p l e (kR 1 24 0 0) s m ([.int p1, .ref a_p2, .ref a_p3, .ref a_p4] : List Value).toArray below meth c H locs 0 0 Q (F0 m 84 ls []) := by
    intro K6 k6 H locs ls v4 v5 V hl hw
    refine lv_iconst (v := 0) hx hb dL_clash_84 (by decide) ?_
    refine lv_istore (lv' := [(6, .int 0), (0, .int p1), (1, .ref a_p2), (2, .ref a_p3), (3, .ref a_p4), (4, .int v4), (5, .int v5)]) hx hb dL_clash_85 hl (by decide) rfl (fun ls hl => ?_)
    obtain ⟨n_87, hw⟩ := hw
    exact B87 K6 k6 n_87 v4 v5 0 V (lv_sub hl [1, 2, 3, 4, 5, 6, 0] rfl) hw
  have B60 : ∀ (K6 : Int32 → Int32 → Prop) (k6 : ∀ {H : Heap} {locs : List Loc} {ls : Array Slot} (v4 : Int32) (v5 : Int32), VW g A s.heap H locs (gAI g a_p2 p2_n p2 ++ (gAJ g a_p3 p3_n p3 ++ (gAI g a_p4 p4_n p4))) → lv_has ls 7 [(0, .int p1), (1, .ref a_p2), (2, .ref a_p3), (3, .ref a_p4), (4, .int v4), (5, .int v5)] → K6 v4 v5 → W p l e (kR 1 24 0 0) s m ([.int p1, .ref a_p2, .ref a_p3, .ref a_p4] : List Value).toArray below meth c H locs 0 0 Q (F0 m 6 ls [])), ∀ {H : Heap} {locs : List Loc} {ls : Array Slot} (v4 : Int32) (v5 : Int32) (V : VW g A s.heap H locs (gAI g a_p2 p2_n p2 ++ (gAJ g a_p3 p3_n p3 ++ (gAI g a_p4 p4_n p4)))) (hl : lv_has ls 7 [(0, .int p1), (1, .ref a_p2), (2, .ref a_p3), (3, .ref a_p4), (4, .int v4), (5, .int v5)]) (hw : wL_clash_60 p2_n p3_n p4_n p2 p3 p4 p1 K6 P v4 v5), W p l e (kR 1 24 0 0) s m ([.int p1, .ref a_p2, .ref a_p3, .ref a_p4] : List Value).toArray below meth c H locs 0 0 Q (F0 m 60 ls []) := by
    intro K6 k6 H locs ls v4 v5 V hl hw
    refine lv_iload hx hb dL_clash_60 (lv_at hl 5 rfl) ?_
    refine lv_iload_n hx hb dL_clash_62 rfl (lv_at hl 0 rfl) ?_
    refine lv_icmp_eq (tgt := 84) hx hb dL_clash_63 (by decide) (fun c_63 => ?_) (fun c_63 => ?_)
    · have hw := hw.1 c_63
      exact B84 K6 k6 v4 v5 V hl hw
    · have hw := hw.2 c_63
      refine lv_aload_n hx hb dL_clash_66 rfl (lv_at hl 2 rfl) ?_
      refine lv_iload hx hb dL_clash_67 (lv_at hl 5 rfl) ?_
      refine klald F V 1 rfl hw.1 dL_clash_69 ?_
      have hw := hw.2
      refine lv_aload_n hx hb dL_clash_70 rfl (lv_at hl 2 rfl) ?_
      refine lv_iload_n hx hb dL_clash_71 rfl (lv_at hl 0 rfl) ?_
      refine klald F V 1 rfl hw.1 dL_clash_72 ?_
      have hw := hw.2
      refine W.lcmp hx hb dL_clash_73 ?_
      refine lv_if_ne (tgt := 84) hx hb dL_clash_74 (by decide) (fun c_74 => ?_) (fun c_74 => ?_)
      · have hw := hw.1 c_74
        exact B84 K6 k6 v4 v5 V hl hw
      · have hw := hw.2 c_74
        refine lv_iload hx hb dL_clash_77 (lv_at hl 4 rfl) ?_
        refine lv_bipush (v := 8) hx hb dL_clash_79 (by decide) ?_
        refine lv_ior hx hb dL_clash_81 ?_
        refine lv_topi (fun v4_82 ev4_82 => ?_)
        have hw := hw v4_82 ev4_82
        refine lv_istore (lv' := [(4, .int v4_82), (0, .int p1), (1, .ref a_p2), (2, .ref a_p3), (3, .ref a_p4), (5, .int v5)]) hx hb dL_clash_82 hl (by decide) rfl (fun ls hl => ?_)
        exact B84 K6 k6 v4_82 v5 V (lv_sub hl [1, 2, 3, 4, 0, 5] rfl) hw
  have B37 : ∀ (K6 : Int32 → Int32 → Prop) (k6 : ∀ {H : Heap} {locs : List Loc} {ls : Array Slot} (v4 : Int32) (v5 : Int32), VW g A s.heap H locs (gAI g a_p2 p2_n p2 ++ (gAJ g a_p3 p3_n p3 ++ (gAI g a_p4 p4_n p4))) → lv_has ls 7 [(0, .int p1), (1, .ref a_p2), (2, .ref a_p3), (3, .ref a_p4), (4, .int v4), (5, .int v5)] → K6 v4 v5 → W p l e (kR 1 24 0 0) s m ([.int p1, .ref a_p2, .ref a_p3, .ref a_p4] : List Value).toArray below meth c H locs 0 0 Q (F0 m 6 ls [])), ∀ {H : Heap} {locs : List Loc} {ls : Array Slot} (v4 : Int32) (v5 : Int32) (V : VW g A s.heap H locs (gAI g a_p2 p2_n p2 ++ (gAJ g a_p3 p3_n p3 ++ (gAI g a_p4 p4_n p4)))) (hl : lv_has ls 7 [(0, .int p1), (1, .ref a_p2), (2, .ref a_p3), (3, .ref a_p4), (4, .int v4), (5, .int v5)]) (hw : wL_clash_37 p2_n p3_n p4_n p2 p3 p4 p1 K6 P v4 v5), W p l e (kR 1 24 0 0) s m ([.int p1, .ref a_p2, .ref a_p3, .ref a_p4] : List Value).toArray below meth c H locs 0 0 Q (F0 m 37 ls []) := by
    intro K6 k6 H locs ls v4 v5 V hl hw
    refine lv_iload hx hb dL_clash_37 (lv_at hl 5 rfl) ?_
    refine lv_iload_n hx hb dL_clash_39 rfl (lv_at hl 0 rfl) ?_
    refine lv_icmp_eq (tgt := 60) hx hb dL_clash_40 (by decide) (fun c_40 => ?_) (fun c_40 => ?_)
    · have hw := hw.1 c_40
      exact B60 K6 k6 v4 v5 V hl hw
    · have hw := hw.2 c_40
      refine lv_iload_n hx hb dL_clash_43 rfl (lv_at hl 0 rfl) ?_
      refine lv_iconst (v := 0) hx hb dL_clash_44 (by decide) ?_
      refine lv_iload hx hb dL_clash_45 (lv_at hl 5 rfl) ?_
      refine lv_aload_n hx hb dL_clash_47 rfl (lv_at hl 1 rfl) ?_
      refine kSi0 (rest := []) F hl V [0] [1, 2] [2, 0, 1] (gAI g a_p2 p2_n p2 ++ (gAJ g a_p3 p3_n p3 ++ (gAI g a_p4 p4_n p4))) (kL_has l g a_p2 p2_n p2 p1 0 v5 _ hw) gL_clash_L_has rfl 4 rfl hdL_has rfl rfl (fun _ => rfl) rfl rfl rfl (by decide) ⟨Nat.le_of_ble_eq_true rfl, Nat.le_of_ble_eq_true rfl⟩ ⟨Nat.le_of_ble_eq_true rfl, Nat.le_of_ble_eq_true rfl⟩ (Nat.le_of_ble_eq_true rfl) rfl dL_clash_48 (fun r_48 H locs hw V => ?_)
      refine lv_if_eq (tgt := 60) hx hb dL_clash_51 (by decide) (fun c_51 => ?_) (fun c_51 => ?_)
      · have hw := hw.1 c_51
        exact B60 K6 k6 v4 v5 V hl hw
      · have hw := hw.2 c_51
        refine lv_iload hx hb dL_clash_54 (lv_at hl 4 rfl) ?_
        refine lv_iconst (v := 4) hx hb dL_clash_56 (by decide) ?_
        refine lv_ior hx hb dL_clash_57 ?_
        refine lv_topi (fun v4_58 ev4_58 => ?_)
        have hw := hw v4_58 ev4_58
        refine lv_istore (lv' := [(4, .int v4_58), (0, .int p1), (1, .ref a_p2), (2, .ref a_p3), (3, .ref a_p4), (5, .int v5)]) hx hb dL_clash_58 hl (by decide) rfl (fun ls hl => ?_)
        exact B60 K6 k6 v4_58 v5 V (lv_sub hl [1, 2, 3, 4, 0, 5] rfl) hw
  have B6 :  ∀ (n : Nat), ∀ {H : Heap} {locs : List Loc} {ls : Array Slot} (v4 : Int32) (v5 : Int32) (V : VW g A s.heap H locs (gAI g a_p2 p2_n p2 ++ (gAJ g a_p3 p3_n p3 ++ (gAI g a_p4 p4_n p4)))) (hl : lv_has ls 7 [(0, .int p1), (1, .ref a_p2), (2, .ref a_p3), (3, .ref a_p4), (4, .int v4), (5, .int v5)]) (hw : wL_clash_6 p2_n p3_n p4_n p2 p3 p4 p1 P n v4 v5), W p l e (kR 1 24 0 0) s m ([.int p1, .ref a_p2, .ref a_p3, .ref a_p4] : List Value).toArray below meth c H locs 0 0 Q (F0 m 6 ls []) := by
    intro n
    induction n with
    | zero => intro _ _ _ _ _ V hl hw; exact hw.elim
    | succ n ih =>
      intro H locs ls v4 v5 V hl hw
      refine lv_iload hx hb dL_clash_6 (lv_at hl 5 rfl) ?_
      refine lv_aload_n hx hb dL_clash_8 rfl (lv_at hl 3 rfl) ?_
      refine lv_iconst (v := 0) hx hb dL_clash_9 (by decide) ?_
      refine kiald F V 2 rfl hw.1 dL_clash_10 ?_
      have hw := hw.2
      refine lv_icmp_ge (tgt := 161) hx hb dL_clash_11 (by decide) (fun c_11 => ?_) (fun c_11 => ?_)
      · have hw := hw.1 c_11
        refine lv_iload hx hb dL_clash_161 (lv_at hl 4 rfl) ?_
        refine lv_iconst (v := 1) hx hb dL_clash_163 (by decide) ?_
        refine lv_iand hx hb dL_clash_164 ?_
        refine lv_iconst (v := 1) hx hb dL_clash_165 (by decide) ?_
        refine lv_icmp_ne (tgt := 173) hx hb dL_clash_166 (by decide) (fun c_166 => ?_) (fun c_166 => ?_)
        · have hw := hw.1 c_166
          refine lv_iload hx hb dL_clash_173 (lv_at hl 4 rfl) ?_
          refine lv_iconst (v := 2) hx hb dL_clash_175 (by decide) ?_
          refine lv_iand hx hb dL_clash_176 ?_
          refine lv_iconst (v := 2) hx hb dL_clash_177 (by decide) ?_
          refine lv_icmp_ne (tgt := 185) hx hb dL_clash_178 (by decide) (fun c_178 => ?_) (fun c_178 => ?_)
          · have hw := hw.1 c_178
            refine lv_iload hx hb dL_clash_185 (lv_at hl 4 rfl) ?_
            refine lv_iconst (v := 4) hx hb dL_clash_187 (by decide) ?_
            refine lv_iand hx hb dL_clash_188 ?_
            refine lv_iconst (v := 4) hx hb dL_clash_189 (by decide) ?_
            refine lv_icmp_ne (tgt := 197) hx hb dL_clash_190 (by decide) (fun c_190 => ?_) (fun c_190 => ?_)
            · have hw := hw.1 c_190
              refine lv_iload hx hb dL_clash_197 (lv_at hl 4 rfl) ?_
              refine lv_bipush (v := 8) hx hb dL_clash_199 (by decide) ?_
              refine lv_icmp_ne (tgt := 208) hx hb dL_clash_201 (by decide) (fun c_201 => ?_) (fun c_201 => ?_)
              · have hw := hw.1 c_201
                refine lv_iconst (v := 0) hx hb dL_clash_208 (by decide) ?_
                exact ret _ _ _ _ _ rfl dL_clash_209 V hw
              · have hw := hw.2 c_201
                refine lv_iconst (v := 4) hx hb dL_clash_204 (by decide) ?_
                refine lv_goto (tgt := 209) hx hb dL_clash_205 (by decide) ?_
                exact ret _ _ _ _ _ rfl dL_clash_209 V hw
            · have hw := hw.2 c_190
              refine lv_iconst (v := 3) hx hb dL_clash_193 (by decide) ?_
              refine lv_goto (tgt := 209) hx hb dL_clash_194 (by decide) ?_
              exact ret _ _ _ _ _ rfl dL_clash_209 V hw
          · have hw := hw.2 c_178
            refine lv_iconst (v := 2) hx hb dL_clash_181 (by decide) ?_
            refine lv_goto (tgt := 209) hx hb dL_clash_182 (by decide) ?_
            exact ret _ _ _ _ _ rfl dL_clash_209 V hw
        · have hw := hw.2 c_166
          refine lv_iconst (v := 1) hx hb dL_clash_169 (by decide) ?_
          refine lv_goto (tgt := 209) hx hb dL_clash_170 (by decide) ?_
          exact ret _ _ _ _ _ rfl dL_clash_209 V hw
      · have hw := hw.2 c_11
        refine lv_iload hx hb dL_clash_14 (lv_at hl 5 rfl) ?_
        refine lv_iload_n hx hb dL_clash_16 rfl (lv_at hl 0 rfl) ?_
        refine lv_icmp_eq (tgt := 37) hx hb dL_clash_17 (by decide) (fun c_17 => ?_) (fun c_17 => ?_)
        · have hw := hw.1 c_17
          exact B37 (wL_clash_6 p2_n p3_n p4_n p2 p3 p4 p1 P n) ih v4 v5 V hl hw
        · have hw := hw.2 c_17
          refine lv_iload hx hb dL_clash_20 (lv_at hl 5 rfl) ?_
          refine lv_iconst (v := 0) hx hb dL_clash_22 (by decide) ?_
          refine lv_iload_n hx hb dL_clash_23 rfl (lv_at hl 0 rfl) ?_
          refine lv_aload_n hx hb dL_clash_24 rfl (lv_at hl 1 rfl) ?_
          refine kSi0 (rest := []) F hl V [0] [1, 2] [2, 0, 1] (gAI g a_p2 p2_n p2 ++ (gAJ g a_p3 p3_n p3 ++ (gAI g a_p4 p4_n p4))) (kL_has l g a_p2 p2_n p2 v5 0 p1 _ hw) gL_clash_L_has rfl 4 rfl hdL_has rfl rfl (fun _ => rfl) rfl rfl rfl (by decide) ⟨Nat.le_of_ble_eq_true rfl, Nat.le_of_ble_eq_true rfl⟩ ⟨Nat.le_of_ble_eq_true rfl, Nat.le_of_ble_eq_true rfl⟩ (Nat.le_of_ble_eq_true rfl) rfl dL_clash_25 (fun r_25 H locs hw V => ?_)
          refine lv_if_eq (tgt := 37) hx hb dL_clash_28 (by decide) (fun c_28 => ?_) (fun c_28 => ?_)
          · have hw := hw.1 c_28
            exact B37 (wL_clash_6 p2_n p3_n p4_n p2 p3 p4 p1 P n) ih v4 v5 V hl hw
          · have hw := hw.2 c_28
            refine lv_iload hx hb dL_clash_31 (lv_at hl 4 rfl) ?_
            refine lv_iconst (v := 1) hx hb dL_clash_33 (by decide) ?_
            refine lv_ior hx hb dL_clash_34 ?_
            refine lv_topi (fun v4_35 ev4_35 => ?_)
            have hw := hw v4_35 ev4_35
            refine lv_istore (lv' := [(4, .int v4_35), (0, .int p1), (1, .ref a_p2), (2, .ref a_p3), (3, .ref a_p4), (5, .int v5)]) hx hb dL_clash_35 hl (by decide) rfl (fun ls hl => ?_)
            exact B37 (wL_clash_6 p2_n p3_n p4_n p2 p3 p4 p1 P n) ih v4_35 v5 V (lv_sub hl [1, 2, 3, 4, 0, 5] rfl) hw
  refine lv_iconst (v := 0) hx hb dL_clash_0 (by decide) ?_
  refine lv_istore (lv' := [(4, .int 0), (0, .int p1), (1, .ref a_p2), (2, .ref a_p3), (3, .ref a_p4)]) hx hb dL_clash_1 hl (by decide) rfl (fun ls hl => ?_)
  refine lv_iconst (v := 0) hx hb dL_clash_3 (by decide) ?_
  refine lv_istore (lv' := [(5, .int 0), (4, .int 0), (0, .int p1), (1, .ref a_p2), (2, .ref a_p3), (3, .ref a_p4)]) hx hb dL_clash_4 hl (by decide) rfl (fun ls hl => ?_)
  obtain ⟨n_6, hw⟩ := hw
  exact B6  n_6 0 0 V (lv_sub hl [2, 3, 4, 5, 1, 0] rfl) hw
theorem hdL_keys : yL_keys.cls ≠ "java/lang/invoke/MethodHandle" ∧ yL_keys.cls ≠ "java/lang/invoke/VarHandle" ∧ (parseMethodDescriptor yL_keys.desc).map (fun d => d.parameters.length) = some 1 := by decide +kernel
set_option maxHeartbeats 4000000 in
set_option maxRecDepth 100000 in
theorem kL_keys (l : Launch) (g : kT) (p1 : Int32) (P : Int32 → Prop) (hw : wL_keys p1 P) : Ki0 l g yL_keys wsL_keys 2 44 0 0 [.int p1] [] P [] := by
  refine Ki0.mk (cc := cL_keys) (nL := 1) (ty := .int) (by decide +kernel) rfl (Nat.le_of_ble_eq_true rfl) ?_
  intro p e s m below meth c A Q ls F hl V ret
  have hx := F.x
  have hb := F.b
  have hl : lv_has ls 1 [(0, .int p1)] := hl
  refine lv_iload_n hx hb dL_keys_0 rfl (lv_at hl 0 rfl) ?_
  refine lv_bipush (v := 6) hx hb dL_keys_1 (by decide) ?_
  refine lv_ishr hx hb dL_keys_3 ?_
  refine kSl0n (rest := []) F hl V (kL_spelled l g (p1 >>> (6 &&& 31)) _ hw) gL_keys_L_spelled rfl 1 rfl hdL_spelled ⟨Nat.le_of_ble_eq_true rfl, Nat.le_of_ble_eq_true rfl⟩ ⟨Nat.le_of_ble_eq_true rfl, Nat.le_of_ble_eq_true rfl⟩ (Nat.le_of_ble_eq_true rfl) rfl dL_keys_4 (fun r_4 H locs hw V => ?_)
  refine kSi0n (rest := []) F hl V (kL_size l g r_4 _ hw) gL_keys_L_size rfl 1 rfl hdL_size ⟨Nat.le_of_ble_eq_true rfl, Nat.le_of_ble_eq_true rfl⟩ ⟨Nat.le_of_ble_eq_true rfl, Nat.le_of_ble_eq_true rfl⟩ (Nat.le_of_ble_eq_true rfl) rfl dL_keys_7 (fun r_7 H locs hw V => ?_)
  refine lv_iload_n hx hb dL_keys_10 rfl (lv_at hl 0 rfl) ?_
  refine lv_bipush (v := 63) hx hb dL_keys_11 (by decide) ?_
  refine lv_iand hx hb dL_keys_13 ?_
  refine kSl0n (rest := [.int r_7]) F hl V (kL_spelled l g (p1 &&& 63) _ hw) gL_keys_L_spelled rfl 1 rfl hdL_spelled ⟨Nat.le_of_ble_eq_true rfl, Nat.le_of_ble_eq_true rfl⟩ ⟨Nat.le_of_ble_eq_true rfl, Nat.le_of_ble_eq_true rfl⟩ (Nat.le_of_ble_eq_true rfl) rfl dL_keys_14 (fun r_14 H locs hw V => ?_)
  refine kSi0n (rest := [.int r_7]) F hl V (kL_size l g r_14 _ hw) gL_keys_L_size rfl 1 rfl hdL_size ⟨Nat.le_of_ble_eq_true rfl, Nat.le_of_ble_eq_true rfl⟩ ⟨Nat.le_of_ble_eq_true rfl, Nat.le_of_ble_eq_true rfl⟩ (Nat.le_of_ble_eq_true rfl) rfl dL_keys_17 (fun r_17 H locs hw V => ?_)
  refine lv_iadd hx hb dL_keys_20 ?_
  exact ret _ _ _ _ _ rfl dL_keys_21 V hw
