theorem hdL_remove : yL_remove.cls ≠ "java/lang/invoke/MethodHandle" ∧ yL_remove.cls ≠ "java/lang/invoke/VarHandle" ∧ (parseMethodDescriptor yL_remove.desc).map (fun d => d.parameters.length) = some 4 := by decide +kernel
set_option maxHeartbeats 4000000 in
set_option maxRecDepth 100000 in
theorem kL_remove (l : Launch) (g : kT) (a_p2 : Nat) (a_p3 : Nat) (a_p4 : Nat) (p2_n : Nat) (p3_n : Nat) (p4_n : Nat) (p2 : Nat → Int32) (p3 : Nat → Int64) (p4 : Nat → Int32) (p1 : Int32) (P : (Nat → Int32) → (Nat → Int64) → (Nat → Int32) → Prop) (hw : wL_remove p2_n p3_n p4_n p1 P p2 p3 p4) : Kv3 l g yL_remove wsL_remove 0 0 0 0 [.int p1, .ref a_p2, .ref a_p3, .ref a_p4] (gAI g a_p2 p2_n p2 ++ (gAJ g a_p3 p3_n p3 ++ (gAI g a_p4 p4_n p4))) P (fun p2 p3 p4 => (gAI g a_p2 p2_n p2 ++ (gAJ g a_p3 p3_n p3 ++ (gAI g a_p4 p4_n p4)))) := by
  refine Kv3.mk (cc := cL_remove) (nL := 6) (by decide +kernel) rfl (Nat.le_of_ble_eq_true rfl) ?_
  intro p e s m below meth c A Q ls F hl V ret _
  have hx := F.x
  have hb := F.b
  have hl : lv_has ls 6 [(0, .int p1), (1, .ref a_p2), (2, .ref a_p3), (3, .ref a_p4)] := hl
  have B31 : ∀ (K10 : Int32 → (Nat → Int32) → (Nat → Int64) → (Nat → Int32) → Prop) (k10 : ∀ {H : Heap} {locs : List Loc} {ls : Array Slot} (v4 : Int32) (p2 : Nat → Int32) (p3 : Nat → Int64) (p4 : Nat → Int32), VW g A s.heap H locs (gAI g a_p2 p2_n p2 ++ (gAJ g a_p3 p3_n p3 ++ (gAI g a_p4 p4_n p4))) → lv_has ls 6 [(1, .ref a_p2), (2, .ref a_p3), (3, .ref a_p4), (4, .int v4)] → K10 v4 p2 p3 p4 → W p l e (kR 0 0 0 0) s m ([.int p1, .ref a_p2, .ref a_p3, .ref a_p4] : List Value).toArray below meth c H locs 0 0 Q (F0 m 10 ls [])), ∀ (n : Nat), ∀ {H : Heap} {locs : List Loc} {ls : Array Slot} (v4 : Int32) (v5 : Int32) (p2 : Nat → Int32) (p3 : Nat → Int64) (p4 : Nat → Int32) (V : VW g A s.heap H locs (gAI g a_p2 p2_n p2 ++ (gAJ g a_p3 p3_n p3 ++ (gAI g a_p4 p4_n p4)))) (hl : lv_has ls 6 [(1, .ref a_p2), (2, .ref a_p3), (3, .ref a_p4), (4, .int v4), (5, .int v5)]) (hw : wL_remove_31 p2_n p3_n p4_n p1 K10 P n v4 v5 p2 p3 p4), W p l e (kR 0 0 0 0) s m ([.int p1, .ref a_p2, .ref a_p3, .ref a_p4] : List Value).toArray below meth c H locs 0 0 Q (F0 m 31 ls []) := by
    intro K10 k10
    intro n
    induction n with
    | zero => intro _ _ _ _ _ _ _ _ V hl hw; exact hw.elim
    | succ n ih =>
      intro H locs ls v4 v5 p2 p3 p4 V hl hw
      refine lv_iload hx hb dL_remove_31 (lv_at hl 4 rfl) ?_
      refine lv_iconst (v := 5) hx hb dL_remove_33 (by decide) ?_
      refine lv_icmp_ge (tgt := 63) hx hb dL_remove_34 (by decide) (fun c_34 => ?_) (fun c_34 => ?_)
      · have hw := hw.1 c_34
        refine lv_iinc (v := v4 + 1) (lv' := [(4, .int (v4 + 1)), (1, .ref a_p2), (2, .ref a_p3), (3, .ref a_p4), (5, .int v5)]) hx hb dL_remove_63 hl (k := 3) rfl rfl (by decide) rfl (fun ls hl => ?_)
        refine lv_goto (tgt := 10) hx hb dL_remove_66 (by decide) ?_
        exact k10 (v4 + 1) p2 p3 p4 V (lv_sub hl [1, 2, 3, 0] rfl) hw
      · have hw := hw.2 c_34
        refine lv_aload_n hx hb dL_remove_37 rfl (lv_at hl 0 rfl) ?_
        refine lv_iconst (v := 5) hx hb dL_remove_38 (by decide) ?_
        refine lv_iload hx hb dL_remove_39 (lv_at hl 3 rfl) ?_
        refine lv_imul hx hb dL_remove_41 ?_
        refine lv_iload hx hb dL_remove_42 (lv_at hl 4 rfl) ?_
        refine lv_iadd hx hb dL_remove_44 ?_
        refine lv_aload_n hx hb dL_remove_45 rfl (lv_at hl 0 rfl) ?_
        refine lv_iconst (v := 5) hx hb dL_remove_46 (by decide) ?_
        refine lv_iload hx hb dL_remove_47 (lv_at hl 3 rfl) ?_
        refine lv_imul hx hb dL_remove_49 ?_
        refine lv_iconst (v := 5) hx hb dL_remove_50 (by decide) ?_
        refine lv_iadd hx hb dL_remove_51 ?_
        refine lv_iload hx hb dL_remove_52 (lv_at hl 4 rfl) ?_
        refine lv_iadd hx hb dL_remove_54 ?_
        refine kiald F V 0 rfl hw.1 dL_remove_55 ?_
        have hw := hw.2
        refine kiast F V 0 rfl hw.1 dL_remove_56 (fun p2_56 ep2_56 H locs V => ?_)
        have hw := hw.2 p2_56 ep2_56
        have V : VW g A s.heap H locs (gAI g a_p2 p2_n p2_56 ++ (gAJ g a_p3 p3_n p3 ++ (gAI g a_p4 p4_n p4))) := V
        refine lv_iinc (v := v5 + 1) (lv' := [(5, .int (v5 + 1)), (1, .ref a_p2), (2, .ref a_p3), (3, .ref a_p4), (4, .int v4)]) hx hb dL_remove_57 hl (k := 4) rfl rfl (by decide) rfl (fun ls hl => ?_)
        refine lv_goto (tgt := 31) hx hb dL_remove_60 (by decide) ?_
        exact ih v4 (v5 + 1) p2_56 p3 p4 V (lv_sub hl [1, 2, 3, 4, 0] rfl) hw
  have B10 :  ∀ (n : Nat), ∀ {H : Heap} {locs : List Loc} {ls : Array Slot} (v4 : Int32) (p2 : Nat → Int32) (p3 : Nat → Int64) (p4 : Nat → Int32) (V : VW g A s.heap H locs (gAI g a_p2 p2_n p2 ++ (gAJ g a_p3 p3_n p3 ++ (gAI g a_p4 p4_n p4)))) (hl : lv_has ls 6 [(1, .ref a_p2), (2, .ref a_p3), (3, .ref a_p4), (4, .int v4)]) (hw : wL_remove_10 p2_n p3_n p4_n p1 P n v4 p2 p3 p4), W p l e (kR 0 0 0 0) s m ([.int p1, .ref a_p2, .ref a_p3, .ref a_p4] : List Value).toArray below meth c H locs 0 0 Q (F0 m 10 ls []) := by
    intro n
    induction n with
    | zero => intro _ _ _ _ _ _ _ V hl hw; exact hw.elim
    | succ n ih =>
      intro H locs ls v4 p2 p3 p4 V hl hw
      refine lv_iload hx hb dL_remove_10 (lv_at hl 3 rfl) ?_
      refine lv_aload_n hx hb dL_remove_12 rfl (lv_at hl 2 rfl) ?_
      refine lv_iconst (v := 0) hx hb dL_remove_13 (by decide) ?_
      refine kiald F V 2 rfl hw.1 dL_remove_14 ?_
      have hw := hw.2
      refine lv_icmp_ge (tgt := 69) hx hb dL_remove_15 (by decide) (fun c_15 => ?_) (fun c_15 => ?_)
      · have hw := hw.1 c_15
        exact ret _ _ _ _ _ _ _ dL_remove_69 V hw
      · have hw := hw.2 c_15
        refine lv_aload_n hx hb dL_remove_18 rfl (lv_at hl 1 rfl) ?_
        refine lv_iload hx hb dL_remove_19 (lv_at hl 3 rfl) ?_
        refine lv_aload_n hx hb dL_remove_21 rfl (lv_at hl 1 rfl) ?_
        refine lv_iload hx hb dL_remove_22 (lv_at hl 3 rfl) ?_
        refine lv_iconst (v := 1) hx hb dL_remove_24 (by decide) ?_
        refine lv_iadd hx hb dL_remove_25 ?_
        refine klald F V 1 rfl hw.1 dL_remove_26 ?_
        have hw := hw.2
        refine klast F V 1 rfl hw.1 dL_remove_27 (fun p3_27 ep3_27 H locs V => ?_)
        have hw := hw.2 p3_27 ep3_27
        have V : VW g A s.heap H locs (gAI g a_p2 p2_n p2 ++ (gAJ g a_p3 p3_n p3_27 ++ (gAI g a_p4 p4_n p4))) := V
        refine lv_iconst (v := 0) hx hb dL_remove_28 (by decide) ?_
        refine lv_istore (lv' := [(5, .int 0), (1, .ref a_p2), (2, .ref a_p3), (3, .ref a_p4), (4, .int v4)]) hx hb dL_remove_29 hl (by decide) rfl (fun ls hl => ?_)
        obtain ⟨n_31, hw⟩ := hw
        exact B31 (wL_remove_10 p2_n p3_n p4_n p1 P n) ih n_31 v4 0 p2 p3_27 p4 V (lv_sub hl [1, 2, 3, 4, 0] rfl) hw
  refine lv_aload_n hx hb dL_remove_0 rfl (lv_at hl 3 rfl) ?_
  refine lv_iconst (v := 0) hx hb dL_remove_1 (by decide) ?_
  refine lv_dup2_11 hx hb dL_remove_2 rfl rfl ?_
  refine kiald F V 2 rfl hw.1 dL_remove_3 ?_
  have hw := hw.2
  refine lv_iconst (v := 1) hx hb dL_remove_4 (by decide) ?_
  refine lv_isub hx hb dL_remove_5 ?_
  refine kiast F V 2 rfl hw.1 dL_remove_6 (fun p4_6 ep4_6 H locs V => ?_)
  have hw := hw.2 p4_6 ep4_6
  have V : VW g A s.heap H locs (gAI g a_p2 p2_n p2 ++ (gAJ g a_p3 p3_n p3 ++ (gAI g a_p4 p4_n p4_6))) := V
  refine lv_iload_n hx hb dL_remove_7 rfl (lv_at hl 0 rfl) ?_
  refine lv_istore (lv' := [(4, .int p1), (0, .int p1), (1, .ref a_p2), (2, .ref a_p3), (3, .ref a_p4)]) hx hb dL_remove_8 hl (by decide) rfl (fun ls hl => ?_)
  obtain ⟨n_10, hw⟩ := hw
  exact B10  n_10 p1 p2 p3 p4_6 V (lv_sub hl [2, 3, 4, 0] rfl) hw
