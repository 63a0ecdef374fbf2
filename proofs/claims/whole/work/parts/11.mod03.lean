theorem hdX12_fewestNow : yX12_fewestNow.cls = RX12 ∧ yX12_fewestNow.cls ≠ "java/lang/invoke/MethodHandle" ∧ yX12_fewestNow.cls ≠ "java/lang/invoke/VarHandle" ∧ (parseMethodDescriptor yX12_fewestNow.desc).map (fun d => d.parameters.length) = some 0 := by decide +kernel
theorem fX12_fewestNow_28 : Cond.fieldLink RX12 28 RX12 "fewest" "[I" ∈ wsX12_fewestNow := by decide +kernel
theorem iX12_fewestNow_X12 : ∀ w ∈ u_ws RX12 TX12 14, w ∈ wsX12_fewestNow := by decide +kernel
theorem fX12_fewestNow_121 : Cond.fieldLink RX12 121 RX12 "length" "I" ∈ wsX12_fewestNow := by decide +kernel
theorem fX12_fewestNow_7 : Cond.fieldLink RX12 7 RX12 "z" "[I" ∈ wsX12_fewestNow := by decide +kernel
def wX12_fewestNow_87 (z : Nat → Int32) (length : Int32) (text : Nat → Int32) (K17 : Int32 → (Nat → Int32) → Prop) (K30 : Int32 → Int32 → (Nat → Int32) → Prop) (P : Int32 → (Nat → Int32) → Prop) (v1 : Int32) (v2 : Int32) (s1 : Int32) (s2 : Int32) (fewest : Nat → Int32) : Prop := vp_in s1 61 ∧ ∀ fewest_87 : Nat → Int32, fewest_87 = upd fewest s1.toNatClampNeg s2 → K30 v1 (v2 + 1) fewest_87
def wX12_fewestNow_81 (z : Nat → Int32) (length : Int32) (text : Nat → Int32) (K17 : Int32 → (Nat → Int32) → Prop) (K30 : Int32 → Int32 → (Nat → Int32) → Prop) (P : Int32 → (Nat → Int32) → Prop) (v1 : Int32) (v2 : Int32) (s1 : Int32) (fewest : Nat → Int32) : Prop := vp_in v1 61 ∧ wX12_fewestNow_87 z length text K17 K30 P v1 v2 s1 (fewest v1.toNatClampNeg) fewest
def wX12_fewestNow_77 (z : Nat → Int32) (length : Int32) (text : Nat → Int32) (K17 : Int32 → (Nat → Int32) → Prop) (K30 : Int32 → Int32 → (Nat → Int32) → Prop) (P : Int32 → (Nat → Int32) → Prop) (v1 : Int32) (v2 : Int32) (v3 : Int32) (s1 : Int32) (fewest : Nat → Int32) : Prop := wX12_fewestNow_87 z length text K17 K30 P v1 v2 s1 v3 fewest
def wX12_fewestNow_30 (z : Nat → Int32) (length : Int32) (text : Nat → Int32) (K17 : Int32 → (Nat → Int32) → Prop) (P : Int32 → (Nat → Int32) → Prop) : Nat → Int32 → Int32 → (Nat → Int32) → Prop
  | 0, _, _, _ => False
  | n + 1, v1, v2, fewest => vp_in 0 1317 ∧ ((z (0 : Int32).toNatClampNeg) ≤ v2 → K17 (v1 + (-1)) fewest) ∧ (¬ ((z (0 : Int32).toNatClampNeg) ≤ v2) → wX12_strokesWith z length text fewest v2 v1 (fun r_43 => (r_43 = (-1) → wX12_fewestNow_81 z length text K17 (wX12_fewestNow_30 z length text K17 P n) P v1 v2 v1 fewest) ∧ (¬ (r_43 = (-1)) → vp_in v1 61 ∧ ((fewest v1.toNatClampNeg) = (-1) → wX12_fewestNow_77 z length text K17 (wX12_fewestNow_30 z length text K17 P n) P v1 v2 r_43 v1 fewest) ∧ (¬ ((fewest v1.toNatClampNeg) = (-1)) → vp_in v1 61 ∧ ((fewest v1.toNatClampNeg) ≤ r_43 → wX12_fewestNow_81 z length text K17 (wX12_fewestNow_30 z length text K17 P n) P v1 v2 v1 fewest) ∧ (¬ ((fewest v1.toNatClampNeg) ≤ r_43) → wX12_fewestNow_77 z length text K17 (wX12_fewestNow_30 z length text K17 P n) P v1 v2 r_43 v1 fewest)))))
def wX12_fewestNow_17 (z : Nat → Int32) (length : Int32) (text : Nat → Int32) (P : Int32 → (Nat → Int32) → Prop) : Nat → Int32 → (Nat → Int32) → Prop
  | 0, _, _ => False
  | n + 1, v1, fewest => (v1 < 0 → vp_in 0 61 ∧ P (fewest (0 : Int32).toNatClampNeg) fewest) ∧ (¬ (v1 < 0) → vp_in v1 61 ∧ ∀ fewest_27 : Nat → Int32, fewest_27 = upd fewest v1.toNatClampNeg (-1) → ∃ n_30, wX12_fewestNow_30 z length text (wX12_fewestNow_17 z length text P n) P n_30 v1 0 fewest_27)
def wX12_fewestNow (z : Nat → Int32) (length : Int32) (text : Nat → Int32) (P : Int32 → (Nat → Int32) → Prop) (fewest : Nat → Int32) : Prop := vp_in length 61 ∧ ∀ fewest_9 : Nat → Int32, fewest_9 = upd fewest length.toNatClampNeg 0 → ∀ v1_16 : Int32, v1_16 = (length - 1) → ∃ n_17, wX12_fewestNow_17 z length text P n_17 v1_16 fewest_9
set_option maxHeartbeats 4000000 in
set_option maxRecDepth 100000 in
theorem kX12_fewestNow (l : Launch) (g : kT) (a_this : Nat) (a_this_z : Nat) (a_this_saved : Nat) (a_this_text : Nat) (a_this_line : Nat) (a_this_aside : Nat) (a_this_read : Nat) (a_this_fewest : Nat) (thrown : Int32) (z : Nat → Int32) (saves : Int32) (saved : Nat → Int32) (length : Int32) (text : Nat → Int32) (many : Int32) (line : Nat → Int32) (aside : Nat → Int32) (isWord : Int32) (entries : Int32) (rdA : Nat → Int32) (fewest : Nat → Int32) (h : Int64) (P : Int32 → (Nat → Int32) → Prop) (hw : wX12_fewestNow z length text P fewest) : Ki1 l g yX12_fewestNow wsX12_fewestNow 3 68 0 0 [.ref a_this] (gX12 g a_this a_this_z a_this_saved a_this_text a_this_line a_this_aside a_this_read a_this_fewest thrown z saves saved length text many line aside isWord entries rdA fewest h) P (fun fewest => (gX12 g a_this a_this_z a_this_saved a_this_text a_this_line a_this_aside a_this_read a_this_fewest thrown z saves saved length text many line aside isWord entries rdA fewest h)) := by
  refine Ki1.mk (cc := cX12_fewestNow) (nL := 4) (ty := .int) (by decide +kernel) rfl (Nat.le_of_ble_eq_true rfl) ?_
  intro p e s m below meth c A Q ls F hl V ret
  have hx := F.x
  have hb := F.b
  have hl : lv_has ls 4 [(0, .ref a_this)] := hl
  have B87 : ∀ (K17 : Int32 → (Nat → Int32) → Prop) (k17 : ∀ {H : Heap} {locs : List Loc} {ls : Array Slot} (v1 : Int32) (fewest : Nat → Int32), VW g A s.heap H locs (gX12 g a_this a_this_z a_this_saved a_this_text a_this_line a_this_aside a_this_read a_this_fewest thrown z saves saved length text many line aside isWord entries rdA fewest h) → lv_has ls 4 [(0, .ref a_this), (1, .int v1)] → K17 v1 fewest → W p l e (kR 3 68 0 0) s m ([.ref a_this] : List Value).toArray below meth c H locs 0 0 Q (F0 m 17 ls [])) (K30 : Int32 → Int32 → (Nat → Int32) → Prop) (k30 : ∀ {H : Heap} {locs : List Loc} {ls : Array Slot} (v1 : Int32) (v2 : Int32) (fewest : Nat → Int32), VW g A s.heap H locs (gX12 g a_this a_this_z a_this_saved a_this_text a_this_line a_this_aside a_this_read a_this_fewest thrown z saves saved length text many line aside isWord entries rdA fewest h) → lv_has ls 4 [(0, .ref a_this), (1, .int v1), (2, .int v2)] → K30 v1 v2 fewest → W p l e (kR 3 68 0 0) s m ([.ref a_this] : List Value).toArray below meth c H locs 0 0 Q (F0 m 30 ls [])), ∀ {H : Heap} {locs : List Loc} {ls : Array Slot} (v1 : Int32) (v2 : Int32) (s1 : Int32) (s2 : Int32) (fewest : Nat → Int32) (V : VW g A s.heap H locs (gX12 g a_this a_this_z a_this_saved a_this_text a_this_line a_this_aside a_this_read a_this_fewest thrown z saves saved length text many line aside isWord entries rdA fewest h)) (hl : lv_has ls 4 [(0, .ref a_this), (1, .int v1), (2, .int v2)]) (hw : wX12_fewestNow_87 z length text K17 K30 P v1 v2 s1 s2 fewest), W p l e (kR 3 68 0 0) s m ([.ref a_this] : List Value).toArray below meth c H locs 0 0 Q (F0 m 87 ls [.int s2, .int s1, .ref a_this_fewest]) := by
    intro K17 k17 K30 k30 H locs ls v1 v2 s1 s2 fewest V hl hw
    refine kiast F V 7 rfl hw.1 dX12_fewestNow_87 (fun fewest_87 efewest_87 H locs V => ?_)
    have hw := hw.2 fewest_87 efewest_87
    have V : VW g A s.heap H locs (gX12 g a_this a_this_z a_this_saved a_this_text a_this_line a_this_aside a_this_read a_this_fewest thrown z saves saved length text many line aside isWord entries rdA fewest_87 h) := V
    refine lv_iinc (v := v2 + 1) (lv' := [(2, .int (v2 + 1)), (0, .ref a_this), (1, .int v1)]) hx hb dX12_fewestNow_88 hl (k := 2) rfl rfl (by decide) rfl (fun ls hl => ?_)
    refine lv_goto (tgt := 30) hx hb dX12_fewestNow_91 (by decide) ?_
    exact k30 v1 (v2 + 1) fewest_87 V (lv_sub hl [1, 2, 0] rfl) hw
  have B81 : ∀ (K17 : Int32 → (Nat → Int32) → Prop) (k17 : ∀ {H : Heap} {locs : List Loc} {ls : Array Slot} (v1 : Int32) (fewest : Nat → Int32), VW g A s.heap H locs (gX12 g a_this a_this_z a_this_saved a_this_text a_this_line a_this_aside a_this_read a_this_fewest thrown z saves saved length text many line aside isWord entries rdA fewest h) → lv_has ls 4 [(0, .ref a_this), (1, .int v1)] → K17 v1 fewest → W p l e (kR 3 68 0 0) s m ([.ref a_this] : List Value).toArray below meth c H locs 0 0 Q (F0 m 17 ls [])) (K30 : Int32 → Int32 → (Nat → Int32) → Prop) (k30 : ∀ {H : Heap} {locs : List Loc} {ls : Array Slot} (v1 : Int32) (v2 : Int32) (fewest : Nat → Int32), VW g A s.heap H locs (gX12 g a_this a_this_z a_this_saved a_this_text a_this_line a_this_aside a_this_read a_this_fewest thrown z saves saved length text many line aside isWord entries rdA fewest h) → lv_has ls 4 [(0, .ref a_this), (1, .int v1), (2, .int v2)] → K30 v1 v2 fewest → W p l e (kR 3 68 0 0) s m ([.ref a_this] : List Value).toArray below meth c H locs 0 0 Q (F0 m 30 ls [])), ∀ {H : Heap} {locs : List Loc} {ls : Array Slot} (v1 : Int32) (v2 : Int32) (s1 : Int32) (fewest : Nat → Int32) (V : VW g A s.heap H locs (gX12 g a_this a_this_z a_this_saved a_this_text a_this_line a_this_aside a_this_read a_this_fewest thrown z saves saved length text many line aside isWord entries rdA fewest h)) (hl : lv_has ls 4 [(0, .ref a_this), (1, .int v1), (2, .int v2)]) (hw : wX12_fewestNow_81 z length text K17 K30 P v1 v2 s1 fewest), W p l e (kR 3 68 0 0) s m ([.ref a_this] : List Value).toArray below meth c H locs 0 0 Q (F0 m 81 ls [.int s1, .ref a_this_fewest]) := by
    intro K17 k17 K30 k30 H locs ls v1 v2 s1 fewest V hl hw
    refine lv_aload_n hx hb dX12_fewestNow_81 rfl (lv_at hl 0 rfl) ?_
    refine kget F V 8 12 0 rfl rfl iX12_fewestNow_X12 fX12_fewestNow_28 (by decide) rfl rfl dX12_fewestNow_82 ?_
    refine lv_iload_n hx hb dX12_fewestNow_85 rfl (lv_at hl 1 rfl) ?_
    refine kiald F V 7 rfl hw.1 dX12_fewestNow_86 ?_
    have hw := hw.2
    exact B87 K17 k17 K30 k30 v1 v2 s1 (fewest v1.toNatClampNeg) fewest V hl hw
  have B77 : ∀ (K17 : Int32 → (Nat → Int32) → Prop) (k17 : ∀ {H : Heap} {locs : List Loc} {ls : Array Slot} (v1 : Int32) (fewest : Nat → Int32), VW g A s.heap H locs (gX12 g a_this a_this_z a_this_saved a_this_text a_this_line a_this_aside a_this_read a_this_fewest thrown z saves saved length text many line aside isWord entries rdA fewest h) → lv_has ls 4 [(0, .ref a_this), (1, .int v1)] → K17 v1 fewest → W p l e (kR 3 68 0 0) s m ([.ref a_this] : List Value).toArray below meth c H locs 0 0 Q (F0 m 17 ls [])) (K30 : Int32 → Int32 → (Nat → Int32) → Prop) (k30 : ∀ {H : Heap} {locs : List Loc} {ls : Array Slot} (v1 : Int32) (v2 : Int32) (fewest : Nat → Int32), VW g A s.heap H locs (gX12 g a_this a_this_z a_this_saved a_this_text a_this_line a_this_aside a_this_read a_this_fewest thrown z saves saved length text many line aside isWord entries rdA fewest h) → lv_has ls 4 [(0, .ref a_this), (1, .int v1), (2, .int v2)] → K30 v1 v2 fewest → W p l e (kR 3 68 0 0) s m ([.ref a_this] : List Value).toArray below meth c H locs 0 0 Q (F0 m 30 ls [])), ∀ {H : Heap} {locs : List Loc} {ls : Array Slot} (v1 : Int32) (v2 : Int32) (v3 : Int32) (s1 : Int32) (fewest : Nat → Int32) (V : VW g A s.heap H locs (gX12 g a_this a_this_z a_this_saved a_this_text a_this_line a_this_aside a_this_read a_this_fewest thrown z saves saved length text many line aside isWord entries rdA fewest h)) (hl : lv_has ls 4 [(0, .ref a_this), (1, .int v1), (2, .int v2), (3, .int v3)]) (hw : wX12_fewestNow_77 z length text K17 K30 P v1 v2 v3 s1 fewest), W p l e (kR 3 68 0 0) s m ([.ref a_this] : List Value).toArray below meth c H locs 0 0 Q (F0 m 77 ls [.int s1, .ref a_this_fewest]) := by
    intro K17 k17 K30 k30 H locs ls v1 v2 v3 s1 fewest V hl hw
    refine lv_iload_n hx hb dX12_fewestNow_77 rfl (lv_at hl 3 rfl) ?_
    refine lv_goto (tgt := 87) hx hb dX12_fewestNow_78 (by decide) ?_
    exact B87 K17 k17 K30 k30 v1 v2 s1 v3 fewest V (lv_sub hl [0, 1, 2] rfl) hw
  have B30 : ∀ (K17 : Int32 → (Nat → Int32) → Prop) (k17 : ∀ {H : Heap} {locs : List Loc} {ls : Array Slot} (v1 : Int32) (fewest : Nat → Int32), VW g A s.heap H locs (gX12 g a_this a_this_z a_this_saved a_this_text a_this_line a_this_aside a_this_read a_this_fewest thrown z saves saved length text many line aside isWord entries rdA fewest h) → lv_has ls 4 [(0, .ref a_this), (1, .int v1)] → K17 v1 fewest → W p l e (kR 3 68 0 0) s m ([.ref a_this] : List Value).toArray below meth c H locs 0 0 Q (F0 m 17 ls [])), ∀ (n : Nat), ∀ {H : Heap} {locs : List Loc} {ls : Array Slot} (v1 : Int32) (v2 : Int32) (fewest : Nat → Int32) (V : VW g A s.heap H locs (gX12 g a_this a_this_z a_this_saved a_this_text a_this_line a_this_aside a_this_read a_this_fewest thrown z saves saved length text many line aside isWord entries rdA fewest h)) (hl : lv_has ls 4 [(0, .ref a_this), (1, .int v1), (2, .int v2)]) (hw : wX12_fewestNow_30 z length text K17 P n v1 v2 fewest), W p l e (kR 3 68 0 0) s m ([.ref a_this] : List Value).toArray below meth c H locs 0 0 Q (F0 m 30 ls []) := by
    intro K17 k17
    intro n
    induction n with
    | zero => intro _ _ _ _ _ _ V hl hw; exact hw.elim
    | succ n ih =>
      intro H locs ls v1 v2 fewest V hl hw
      refine lv_iload_n hx hb dX12_fewestNow_30 rfl (lv_at hl 2 rfl) ?_
      refine lv_aload_n hx hb dX12_fewestNow_31 rfl (lv_at hl 0 rfl) ?_
      refine kget F V 8 1 0 rfl rfl iX12_fewestNow_X12 fX12_fewestNow_7 (by decide) rfl rfl dX12_fewestNow_32 ?_
      refine lv_iconst (v := 0) hx hb dX12_fewestNow_35 (by decide) ?_
      refine kiald F V 1 rfl hw.1 dX12_fewestNow_36 ?_
      have hw := hw.2
      refine lv_icmp_ge (tgt := 94) hx hb dX12_fewestNow_37 (by decide) (fun c_37 => ?_) (fun c_37 => ?_)
      · have hw := hw.1 c_37
        refine lv_iinc (v := v1 + (-1)) (lv' := [(1, .int (v1 + (-1))), (0, .ref a_this), (2, .int v2)]) hx hb dX12_fewestNow_94 hl (k := 1) rfl rfl (by decide) rfl (fun ls hl => ?_)
        refine lv_goto (tgt := 17) hx hb dX12_fewestNow_97 (by decide) ?_
        exact k17 (v1 + (-1)) fewest V (lv_sub hl [1, 0] rfl) hw
      · have hw := hw.2 c_37
        refine lv_aload_n hx hb dX12_fewestNow_40 rfl (lv_at hl 0 rfl) ?_
        refine lv_iload_n hx hb dX12_fewestNow_41 rfl (lv_at hl 2 rfl) ?_
        refine lv_iload_n hx hb dX12_fewestNow_42 rfl (lv_at hl 1 rfl) ?_
        refine kVi0 (rest := []) F hl V [0, 1, 2, 3, 4, 5, 6, 7] [] [0, 1, 2, 3, 4, 5, 6, 7] (gX12 g a_this a_this_z a_this_saved a_this_text a_this_line a_this_aside a_this_read a_this_fewest thrown z saves saved length text many line aside isWord entries rdA fewest h) a_this 8 0 rfl rfl (kX12_strokesWith l g a_this a_this_z a_this_saved a_this_text a_this_line a_this_aside a_this_read a_this_fewest thrown z saves saved length text many line aside isWord entries rdA fewest h v2 v1 _ hw) gX12_fewestNow_X12_strokesWith rfl 2 rfl hdX12_strokesWith rfl rfl (fun _ => rfl) rfl rfl rfl (by decide) ⟨Nat.le_of_ble_eq_true rfl, Nat.le_of_ble_eq_true rfl⟩ ⟨Nat.le_of_ble_eq_true rfl, Nat.le_of_ble_eq_true rfl⟩ (Nat.le_of_ble_eq_true rfl) rfl dX12_fewestNow_43 (fun r_43 H locs hw V => ?_)
        refine lv_istore_n (lv' := [(3, .int r_43), (0, .ref a_this), (1, .int v1), (2, .int v2)]) hx hb dX12_fewestNow_46 rfl hl (by decide) rfl (fun ls hl => ?_)
        refine lv_aload_n hx hb dX12_fewestNow_47 rfl (lv_at hl 1 rfl) ?_
        refine kget F V 8 12 0 rfl rfl iX12_fewestNow_X12 fX12_fewestNow_28 (by decide) rfl rfl dX12_fewestNow_48 ?_
        refine lv_iload_n hx hb dX12_fewestNow_51 rfl (lv_at hl 2 rfl) ?_
        refine lv_iload_n hx hb dX12_fewestNow_52 rfl (lv_at hl 0 rfl) ?_
        refine lv_iconst (v := (-1)) hx hb dX12_fewestNow_53 (by decide) ?_
        refine lv_icmp_eq (tgt := 81) hx hb dX12_fewestNow_54 (by decide) (fun c_54 => ?_) (fun c_54 => ?_)
        · have hw := hw.1 c_54
          exact B81 K17 k17 (wX12_fewestNow_30 z length text K17 P n) ih v1 v2 v1 fewest V (lv_sub hl [1, 2, 3] rfl) hw
        · have hw := hw.2 c_54
          refine lv_aload_n hx hb dX12_fewestNow_57 rfl (lv_at hl 1 rfl) ?_
          refine kget F V 8 12 0 rfl rfl iX12_fewestNow_X12 fX12_fewestNow_28 (by decide) rfl rfl dX12_fewestNow_58 ?_
          refine lv_iload_n hx hb dX12_fewestNow_61 rfl (lv_at hl 2 rfl) ?_
          refine kiald F V 7 rfl hw.1 dX12_fewestNow_62 ?_
          have hw := hw.2
          refine lv_iconst (v := (-1)) hx hb dX12_fewestNow_63 (by decide) ?_
          refine lv_icmp_eq (tgt := 77) hx hb dX12_fewestNow_64 (by decide) (fun c_64 => ?_) (fun c_64 => ?_)
          · have hw := hw.1 c_64
            exact B77 K17 k17 (wX12_fewestNow_30 z length text K17 P n) ih v1 v2 r_43 v1 fewest V (lv_sub hl [1, 2, 3, 0] rfl) hw
          · have hw := hw.2 c_64
            refine lv_iload_n hx hb dX12_fewestNow_67 rfl (lv_at hl 0 rfl) ?_
            refine lv_aload_n hx hb dX12_fewestNow_68 rfl (lv_at hl 1 rfl) ?_
            refine kget F V 8 12 0 rfl rfl iX12_fewestNow_X12 fX12_fewestNow_28 (by decide) rfl rfl dX12_fewestNow_69 ?_
            refine lv_iload_n hx hb dX12_fewestNow_72 rfl (lv_at hl 2 rfl) ?_
            refine kiald F V 7 rfl hw.1 dX12_fewestNow_73 ?_
            have hw := hw.2
            refine lv_icmp_ge (tgt := 81) hx hb dX12_fewestNow_74 (by decide) (fun c_74 => ?_) (fun c_74 => ?_)
            · have hw := hw.1 c_74
              exact B81 K17 k17 (wX12_fewestNow_30 z length text K17 P n) ih v1 v2 v1 fewest V (lv_sub hl [1, 2, 3] rfl) hw
            · have hw := hw.2 c_74
              exact B77 K17 k17 (wX12_fewestNow_30 z length text K17 P n) ih v1 v2 r_43 v1 fewest V (lv_sub hl [1, 2, 3, 0] rfl) hw
  have B17 :  ∀ (n : Nat), ∀ {H : Heap} {locs : List Loc} {ls : Array Slot} (v1 : Int32) (fewest : Nat → Int32) (V : VW g A s.heap H locs (gX12 g a_this a_this_z a_this_saved a_this_text a_this_line a_this_aside a_this_read a_this_fewest thrown z saves saved length text many line aside isWord entries rdA fewest h)) (hl : lv_has ls 4 [(0, .ref a_this), (1, .int v1)]) (hw : wX12_fewestNow_17 z length text P n v1 fewest), W p l e (kR 3 68 0 0) s m ([.ref a_this] : List Value).toArray below meth c H locs 0 0 Q (F0 m 17 ls []) := by
    intro n
    induction n with
    | zero => intro _ _ _ _ _ V hl hw; exact hw.elim
    | succ n ih =>
      intro H locs ls v1 fewest V hl hw
      refine lv_iload_n hx hb dX12_fewestNow_17 rfl (lv_at hl 1 rfl) ?_
      refine lv_if_lt (tgt := 100) hx hb dX12_fewestNow_18 (by decide) (fun c_18 => ?_) (fun c_18 => ?_)
      · have hw := hw.1 c_18
        refine lv_aload_n hx hb dX12_fewestNow_100 rfl (lv_at hl 0 rfl) ?_
        refine kget F V 8 12 0 rfl rfl iX12_fewestNow_X12 fX12_fewestNow_28 (by decide) rfl rfl dX12_fewestNow_101 ?_
        refine lv_iconst (v := 0) hx hb dX12_fewestNow_104 (by decide) ?_
        refine kiald F V 7 rfl hw.1 dX12_fewestNow_105 ?_
        have hw := hw.2
        exact ret _ _ _ _ _ _ rfl dX12_fewestNow_106 V hw
      · have hw := hw.2 c_18
        refine lv_aload_n hx hb dX12_fewestNow_21 rfl (lv_at hl 0 rfl) ?_
        refine kget F V 8 12 0 rfl rfl iX12_fewestNow_X12 fX12_fewestNow_28 (by decide) rfl rfl dX12_fewestNow_22 ?_
        refine lv_iload_n hx hb dX12_fewestNow_25 rfl (lv_at hl 1 rfl) ?_
        refine lv_iconst (v := (-1)) hx hb dX12_fewestNow_26 (by decide) ?_
        refine kiast F V 7 rfl hw.1 dX12_fewestNow_27 (fun fewest_27 efewest_27 H locs V => ?_)
        have hw := hw.2 fewest_27 efewest_27
        have V : VW g A s.heap H locs (gX12 g a_this a_this_z a_this_saved a_this_text a_this_line a_this_aside a_this_read a_this_fewest thrown z saves saved length text many line aside isWord entries rdA fewest_27 h) := V
        refine lv_iconst (v := 0) hx hb dX12_fewestNow_28 (by decide) ?_
        refine lv_istore_n (lv' := [(2, .int 0), (0, .ref a_this), (1, .int v1)]) hx hb dX12_fewestNow_29 rfl hl (by decide) rfl (fun ls hl => ?_)
        obtain ⟨n_30, hw⟩ := hw
        exact B30 (wX12_fewestNow_17 z length text P n) ih n_30 v1 0 fewest_27 V (lv_sub hl [1, 2, 0] rfl) hw
  refine lv_aload_n hx hb dX12_fewestNow_0 rfl (lv_at hl 0 rfl) ?_
  refine kget F V 8 12 0 rfl rfl iX12_fewestNow_X12 fX12_fewestNow_28 (by decide) rfl rfl dX12_fewestNow_1 ?_
  refine lv_aload_n hx hb dX12_fewestNow_4 rfl (lv_at hl 0 rfl) ?_
  refine kget F V 8 4 0 rfl rfl iX12_fewestNow_X12 fX12_fewestNow_121 (by decide) rfl rfl dX12_fewestNow_5 ?_
  refine lv_iconst (v := 0) hx hb dX12_fewestNow_8 (by decide) ?_
  refine kiast F V 7 rfl hw.1 dX12_fewestNow_9 (fun fewest_9 efewest_9 H locs V => ?_)
  have hw := hw.2 fewest_9 efewest_9
  have V : VW g A s.heap H locs (gX12 g a_this a_this_z a_this_saved a_this_text a_this_line a_this_aside a_this_read a_this_fewest thrown z saves saved length text many line aside isWord entries rdA fewest_9 h) := V
  refine lv_aload_n hx hb dX12_fewestNow_10 rfl (lv_at hl 0 rfl) ?_
  refine kget F V 8 4 0 rfl rfl iX12_fewestNow_X12 fX12_fewestNow_121 (by decide) rfl rfl dX12_fewestNow_11 ?_
  refine lv_iconst (v := 1) hx hb dX12_fewestNow_14 (by decide) ?_
  refine lv_isub hx hb dX12_fewestNow_15 ?_
  refine lv_topi (fun v1_16 ev1_16 => ?_)
  have hw := hw v1_16 ev1_16
  refine lv_istore_n (lv' := [(1, .int v1_16), (0, .ref a_this)]) hx hb dX12_fewestNow_16 rfl hl (by decide) rfl (fun ls hl => ?_)
  obtain ⟨n_17, hw⟩ := hw
  exact B17  n_17 v1_16 fewest_9 V (lv_sub hl [1, 0] rfl) hw
theorem hdX12_fewestStrokes : yX12_fewestStrokes.cls = RX12 ∧ yX12_fewestStrokes.cls ≠ "java/lang/invoke/MethodHandle" ∧ yX12_fewestStrokes.cls ≠ "java/lang/invoke/VarHandle" ∧ (parseMethodDescriptor yX12_fewestStrokes.desc).map (fun d => d.parameters.length) = some 0 := by decide +kernel
theorem fX12_fewestStrokes_31 : Cond.fieldLink RX12 31 RX12 "thrown" "I" ∈ wsX12_fewestStrokes := by decide +kernel
theorem iX12_fewestStrokes_X12 : ∀ w ∈ u_ws RX12 TX12 14, w ∈ wsX12_fewestStrokes := by decide +kernel
def wX12_fewestStrokes (z : Nat → Int32) (length : Int32) (text : Nat → Int32) (P : Int32 → Int32 → (Nat → Int32) → Prop) (thrown : Int32) (fewest : Nat → Int32) : Prop := wX12_fewestNow z length text (fun r_6 fewest_6 => P r_6 0 fewest_6) fewest
set_option maxHeartbeats 4000000 in
set_option maxRecDepth 100000 in
theorem kX12_fewestStrokes (l : Launch) (g : kT) (a_this : Nat) (a_this_z : Nat) (a_this_saved : Nat) (a_this_text : Nat) (a_this_line : Nat) (a_this_aside : Nat) (a_this_read : Nat) (a_this_fewest : Nat) (thrown : Int32) (z : Nat → Int32) (saves : Int32) (saved : Nat → Int32) (length : Int32) (text : Nat → Int32) (many : Int32) (line : Nat → Int32) (aside : Nat → Int32) (isWord : Int32) (entries : Int32) (rdA : Nat → Int32) (fewest : Nat → Int32) (h : Int64) (P : Int32 → Int32 → (Nat → Int32) → Prop) (hw : wX12_fewestStrokes z length text P thrown fewest) : Ki2 l g yX12_fewestStrokes wsX12_fewestStrokes 4 91 0 0 [.ref a_this] (gX12 g a_this a_this_z a_this_saved a_this_text a_this_line a_this_aside a_this_read a_this_fewest thrown z saves saved length text many line aside isWord entries rdA fewest h) P (fun thrown fewest => (gX12 g a_this a_this_z a_this_saved a_this_text a_this_line a_this_aside a_this_read a_this_fewest thrown z saves saved length text many line aside isWord entries rdA fewest h)) := by
  refine Ki2.mk (cc := cX12_fewestStrokes) (nL := 1) (ty := .int) (by decide +kernel) rfl (Nat.le_of_ble_eq_true rfl) ?_
  intro p e s m below meth c A Q ls F hl V ret
  have hx := F.x
  have hb := F.b
  have hl : lv_has ls 1 [(0, .ref a_this)] := hl
  refine lv_aload_n hx hb dX12_fewestStrokes_0 rfl (lv_at hl 0 rfl) ?_
  refine lv_iconst (v := 0) hx hb dX12_fewestStrokes_1 (by decide) ?_
  refine kput F V 8 0 0 tyX12_ok nmX12 rfl rfl iX12_fewestStrokes_X12 fX12_fewestStrokes_31 (by decide) rfl rfl rfl rfl (Nat.le_of_ble_eq_true rfl) dX12_fewestStrokes_2 (fun H locs V => ?_)
  have V : VW g A s.heap H locs (gX12 g a_this a_this_z a_this_saved a_this_text a_this_line a_this_aside a_this_read a_this_fewest 0 z saves saved length text many line aside isWord entries rdA fewest h) := V
  refine lv_aload_n hx hb dX12_fewestStrokes_5 rfl (lv_at hl 0 rfl) ?_
  refine kVi1 (rest := []) F hl V [0, 1, 2, 3, 4, 5, 6, 7] [] [0, 1, 2, 3, 4, 5, 6, 7] (fun fewest_6 => (gX12 g a_this a_this_z a_this_saved a_this_text a_this_line a_this_aside a_this_read a_this_fewest 0 z saves saved length text many line aside isWord entries rdA fewest_6 h)) a_this 8 0 rfl rfl (kX12_fewestNow l g a_this a_this_z a_this_saved a_this_text a_this_line a_this_aside a_this_read a_this_fewest 0 z saves saved length text many line aside isWord entries rdA fewest h _ hw) gX12_fewestStrokes_X12_fewestNow rfl 0 rfl hdX12_fewestNow rfl rfl (fun _ => rfl) rfl rfl rfl (by decide) ⟨Nat.le_of_ble_eq_true rfl, Nat.le_of_ble_eq_true rfl⟩ ⟨Nat.le_of_ble_eq_true rfl, Nat.le_of_ble_eq_true rfl⟩ (Nat.le_of_ble_eq_true rfl) rfl dX12_fewestStrokes_6 (fun r_6 fewest_6 H locs hw V => ?_)
  exact ret _ _ _ _ _ _ _ rfl dX12_fewestStrokes_9 V hw
theorem hdX12_layLine : yX12_layLine.cls = RX12 ∧ yX12_layLine.cls ≠ "java/lang/invoke/MethodHandle" ∧ yX12_layLine.cls ≠ "java/lang/invoke/VarHandle" ∧ (parseMethodDescriptor yX12_layLine.desc).map (fun d => d.parameters.length) = some 0 := by decide +kernel
theorem fX12_layLine_54 : Cond.fieldLink RX12 54 RX12 "many" "I" ∈ wsX12_layLine := by decide +kernel
theorem iX12_layLine_X12 : ∀ w ∈ u_ws RX12 TX12 14, w ∈ wsX12_layLine := by decide +kernel
theorem fX12_layLine_121 : Cond.fieldLink RX12 121 RX12 "length" "I" ∈ wsX12_layLine := by decide +kernel
theorem fX12_layLine_28 : Cond.fieldLink RX12 28 RX12 "fewest" "[I" ∈ wsX12_layLine := by decide +kernel
theorem fX12_layLine_7 : Cond.fieldLink RX12 7 RX12 "z" "[I" ∈ wsX12_layLine := by decide +kernel
theorem fX12_layLine_19 : Cond.fieldLink RX12 19 RX12 "line" "[I" ∈ wsX12_layLine := by decide +kernel
def wX12_layLine_40 (z : Nat → Int32) (length : Int32) (text : Nat → Int32) (fewest : Nat → Int32) (K7 : Int32 → Int32 → (Nat → Int32) → Prop) (P : Int32 → (Nat → Int32) → Prop) : Nat → Int32 → Int32 → Int32 → Int32 → (Nat → Int32) → Prop
  | 0, _, _, _, _, _ => False
  | n + 1, v1, v2, v3, many, line => wX12_entryAt v2 (fun r_46 => vp_in r_46 1317 ∧ ((z r_46.toNatClampNeg) ≤ v3 → wX12_entryAt v2 (fun r_97 => vp_in (r_97 + 5) 1317 ∧ ∀ v1_104 : Int32, v1_104 = (v1 + (z (r_97 + 5).toNatClampNeg)) → K7 v1_104 many line)) ∧ (¬ ((z r_46.toNatClampNeg) ≤ v3) → wX12_entryAt v2 (fun r_66 => vp_in ((r_66 + 1) + v3) 1317 ∧ vp_in many 240 ∧ ∀ line_74 : Nat → Int32, line_74 = upd line many.toNatClampNeg (z ((r_66 + 1) + v3).toNatClampNeg) → ∀ many_82 : Int32, many_82 = (many + 1) → (wX12_layLine_40 z length text fewest K7 P n) v1 v2 (v3 + 1) many_82 line_74)))
def wX12_layLine_17 (z : Nat → Int32) (length : Int32) (text : Nat → Int32) (fewest : Nat → Int32) (K7 : Int32 → Int32 → (Nat → Int32) → Prop) (P : Int32 → (Nat → Int32) → Prop) : Nat → Int32 → Int32 → Int32 → (Nat → Int32) → Prop
  | 0, _, _, _, _ => False
  | n + 1, v1, v2, many, line => wX12_strokesWith z length text fewest v2 v1 (fun r_20 => vp_in v1 61 ∧ (r_20 = (fewest v1.toNatClampNeg) → ∃ n_40, wX12_layLine_40 z length text fewest K7 P n_40 v1 v2 0 many line) ∧ (¬ (r_20 = (fewest v1.toNatClampNeg)) → (wX12_layLine_17 z length text fewest K7 P n) v1 (v2 + 1) many line))
def wX12_layLine_7 (z : Nat → Int32) (length : Int32) (text : Nat → Int32) (fewest : Nat → Int32) (P : Int32 → (Nat → Int32) → Prop) : Nat → Int32 → Int32 → (Nat → Int32) → Prop
  | 0, _, _, _ => False
  | n + 1, v1, many, line => (length ≤ v1 → P many line) ∧ (¬ (length ≤ v1) → ∃ n_17, wX12_layLine_17 z length text fewest (wX12_layLine_7 z length text fewest P n) P n_17 v1 0 many line)
def wX12_layLine (z : Nat → Int32) (length : Int32) (text : Nat → Int32) (fewest : Nat → Int32) (P : Int32 → (Nat → Int32) → Prop) (many : Int32) (line : Nat → Int32) : Prop := ∃ n_7, wX12_layLine_7 z length text fewest P n_7 0 0 line
set_option maxHeartbeats 4000000 in
set_option maxRecDepth 100000 in
theorem kX12_layLine (l : Launch) (g : kT) (a_this : Nat) (a_this_z : Nat) (a_this_saved : Nat) (a_this_text : Nat) (a_this_line : Nat) (a_this_aside : Nat) (a_this_read : Nat) (a_this_fewest : Nat) (thrown : Int32) (z : Nat → Int32) (saves : Int32) (saved : Nat → Int32) (length : Int32) (text : Nat → Int32) (many : Int32) (line : Nat → Int32) (aside : Nat → Int32) (isWord : Int32) (entries : Int32) (rdA : Nat → Int32) (fewest : Nat → Int32) (h : Int64) (P : Int32 → (Nat → Int32) → Prop) (hw : wX12_layLine z length text fewest P many line) : Kv2 l g yX12_layLine wsX12_layLine 3 68 0 0 [.ref a_this] (gX12 g a_this a_this_z a_this_saved a_this_text a_this_line a_this_aside a_this_read a_this_fewest thrown z saves saved length text many line aside isWord entries rdA fewest h) P (fun many line => (gX12 g a_this a_this_z a_this_saved a_this_text a_this_line a_this_aside a_this_read a_this_fewest thrown z saves saved length text many line aside isWord entries rdA fewest h)) := by
  refine Kv2.mk (cc := cX12_layLine) (nL := 4) (by decide +kernel) rfl (Nat.le_of_ble_eq_true rfl) ?_
  intro p e s m below meth c A Q ls F hl V ret _
  have hx := F.x
  have hb := F.b
  have hl : lv_has ls 4 [(0, .ref a_this)] := hl
  have B40 : ∀ (K7 : Int32 → Int32 → (Nat → Int32) → Prop) (k7 : ∀ {H : Heap} {locs : List Loc} {ls : Array Slot} (v1 : Int32) (many : Int32) (line : Nat → Int32), VW g A s.heap H locs (gX12 g a_this a_this_z a_this_saved a_this_text a_this_line a_this_aside a_this_read a_this_fewest thrown z saves saved length text many line aside isWord entries rdA fewest h) → lv_has ls 4 [(0, .ref a_this), (1, .int v1)] → K7 v1 many line → W p l e (kR 3 68 0 0) s m ([.ref a_this] : List Value).toArray below meth c H locs 0 0 Q (F0 m 7 ls [])), ∀ (n : Nat), ∀ {H : Heap} {locs : List Loc} {ls : Array Slot} (v1 : Int32) (v2 : Int32) (v3 : Int32) (many : Int32) (line : Nat → Int32) (V : VW g A s.heap H locs (gX12 g a_this a_this_z a_this_saved a_this_text a_this_line a_this_aside a_this_read a_this_fewest thrown z saves saved length text many line aside isWord entries rdA fewest h)) (hl : lv_has ls 4 [(0, .ref a_this), (1, .int v1), (2, .int v2), (3, .int v3)]) (hw : wX12_layLine_40 z length text fewest K7 P n v1 v2 v3 many line), W p l e (kR 3 68 0 0) s m ([.ref a_this] : List Value).toArray below meth c H locs 0 0 Q (F0 m 40 ls []) := by
    intro K7 k7
    intro n
    induction n with
    | zero => intro _ _ _ _ _ _ _ _ V hl hw; exact hw.elim
    | succ n ih =>
      intro H locs ls v1 v2 v3 many line V hl hw
      refine lv_iload_n hx hb dX12_layLine_40 rfl (lv_at hl 3 rfl) ?_
      refine lv_aload_n hx hb dX12_layLine_41 rfl (lv_at hl 0 rfl) ?_
      refine kget F V 8 1 0 rfl rfl iX12_layLine_X12 fX12_layLine_7 (by decide) rfl rfl dX12_layLine_42 ?_
      refine lv_iload_n hx hb dX12_layLine_45 rfl (lv_at hl 2 rfl) ?_
      refine kSi0n (rest := [.ref a_this_z, .int v3]) F hl V (kX12_entryAt l g v2 _ hw) gX12_layLine_X12_entryAt rfl 1 rfl hdX12_entryAt ⟨Nat.le_of_ble_eq_true rfl, Nat.le_of_ble_eq_true rfl⟩ ⟨Nat.le_of_ble_eq_true rfl, Nat.le_of_ble_eq_true rfl⟩ (Nat.le_of_ble_eq_true rfl) rfl dX12_layLine_46 (fun r_46 H locs hw V => ?_)
      refine kiald F V 1 rfl hw.1 dX12_layLine_49 ?_
      have hw := hw.2
      refine lv_icmp_ge (tgt := 91) hx hb dX12_layLine_50 (by decide) (fun c_50 => ?_) (fun c_50 => ?_)
      · have hw := hw.1 c_50
        refine lv_iload_n hx hb dX12_layLine_91 rfl (lv_at hl 1 rfl) ?_
        refine lv_aload_n hx hb dX12_layLine_92 rfl (lv_at hl 0 rfl) ?_
        refine kget F V 8 1 0 rfl rfl iX12_layLine_X12 fX12_layLine_7 (by decide) rfl rfl dX12_layLine_93 ?_
        refine lv_iload_n hx hb dX12_layLine_96 rfl (lv_at hl 2 rfl) ?_
        refine kSi0n (rest := [.ref a_this_z, .int v1]) F hl V (kX12_entryAt l g v2 _ hw) gX12_layLine_X12_entryAt rfl 1 rfl hdX12_entryAt ⟨Nat.le_of_ble_eq_true rfl, Nat.le_of_ble_eq_true rfl⟩ ⟨Nat.le_of_ble_eq_true rfl, Nat.le_of_ble_eq_true rfl⟩ (Nat.le_of_ble_eq_true rfl) rfl dX12_layLine_97 (fun r_97 H locs hw V => ?_)
        refine lv_iconst (v := 5) hx hb dX12_layLine_100 (by decide) ?_
        refine lv_iadd hx hb dX12_layLine_101 ?_
        refine kiald F V 1 rfl hw.1 dX12_layLine_102 ?_
        have hw := hw.2
        refine lv_iadd hx hb dX12_layLine_103 ?_
        refine lv_topi (fun v1_104 ev1_104 => ?_)
        have hw := hw v1_104 ev1_104
        refine lv_istore_n (lv' := [(1, .int v1_104), (0, .ref a_this), (2, .int v2), (3, .int v3)]) hx hb dX12_layLine_104 rfl hl (by decide) rfl (fun ls hl => ?_)
        refine lv_goto (tgt := 7) hx hb dX12_layLine_105 (by decide) ?_
        exact k7 v1_104 many line V (lv_sub hl [1, 0] rfl) hw
      · have hw := hw.2 c_50
        refine lv_aload_n hx hb dX12_layLine_53 rfl (lv_at hl 0 rfl) ?_
        refine kget F V 8 7 0 rfl rfl iX12_layLine_X12 fX12_layLine_19 (by decide) rfl rfl dX12_layLine_54 ?_
        refine lv_aload_n hx hb dX12_layLine_57 rfl (lv_at hl 0 rfl) ?_
        refine kget F V 8 6 0 rfl rfl iX12_layLine_X12 fX12_layLine_54 (by decide) rfl rfl dX12_layLine_58 ?_
        refine lv_aload_n hx hb dX12_layLine_61 rfl (lv_at hl 0 rfl) ?_
        refine kget F V 8 1 0 rfl rfl iX12_layLine_X12 fX12_layLine_7 (by decide) rfl rfl dX12_layLine_62 ?_
        refine lv_iload_n hx hb dX12_layLine_65 rfl (lv_at hl 2 rfl) ?_
        refine kSi0n (rest := [.ref a_this_z, .int many, .ref a_this_line]) F hl V (kX12_entryAt l g v2 _ hw) gX12_layLine_X12_entryAt rfl 1 rfl hdX12_entryAt ⟨Nat.le_of_ble_eq_true rfl, Nat.le_of_ble_eq_true rfl⟩ ⟨Nat.le_of_ble_eq_true rfl, Nat.le_of_ble_eq_true rfl⟩ (Nat.le_of_ble_eq_true rfl) rfl dX12_layLine_66 (fun r_66 H locs hw V => ?_)
        refine lv_iconst (v := 1) hx hb dX12_layLine_69 (by decide) ?_
        refine lv_iadd hx hb dX12_layLine_70 ?_
        refine lv_iload_n hx hb dX12_layLine_71 rfl (lv_at hl 3 rfl) ?_
        refine lv_iadd hx hb dX12_layLine_72 ?_
        refine kiald F V 1 rfl hw.1 dX12_layLine_73 ?_
        have hw := hw.2
        refine kiast F V 4 rfl hw.1 dX12_layLine_74 (fun line_74 eline_74 H locs V => ?_)
        have hw := hw.2 line_74 eline_74
        have V : VW g A s.heap H locs (gX12 g a_this a_this_z a_this_saved a_this_text a_this_line a_this_aside a_this_read a_this_fewest thrown z saves saved length text many line_74 aside isWord entries rdA fewest h) := V
        refine lv_aload_n hx hb dX12_layLine_75 rfl (lv_at hl 0 rfl) ?_
        refine lv_dup hx hb dX12_layLine_76 rfl ?_
        refine kget F V 8 6 0 rfl rfl iX12_layLine_X12 fX12_layLine_54 (by decide) rfl rfl dX12_layLine_77 ?_
        refine lv_iconst (v := 1) hx hb dX12_layLine_80 (by decide) ?_
        refine lv_iadd hx hb dX12_layLine_81 ?_
        refine lv_topi (fun many_82 emany_82 => ?_)
        have hw := hw many_82 emany_82
        refine kput F V 8 6 0 tyX12_ok nmX12 rfl rfl iX12_layLine_X12 fX12_layLine_54 (by decide) rfl rfl rfl rfl (Nat.le_of_ble_eq_true rfl) dX12_layLine_82 (fun H locs V => ?_)
        have V : VW g A s.heap H locs (gX12 g a_this a_this_z a_this_saved a_this_text a_this_line a_this_aside a_this_read a_this_fewest thrown z saves saved length text many_82 line_74 aside isWord entries rdA fewest h) := V
        refine lv_iinc (v := v3 + 1) (lv' := [(3, .int (v3 + 1)), (0, .ref a_this), (1, .int v1), (2, .int v2)]) hx hb dX12_layLine_85 hl (k := 3) rfl rfl (by decide) rfl (fun ls hl => ?_)
        refine lv_goto (tgt := 40) hx hb dX12_layLine_88 (by decide) ?_
        exact ih v1 v2 (v3 + 1) many_82 line_74 V (lv_sub hl [1, 2, 3, 0] rfl) hw
  have B17 : ∀ (K7 : Int32 → Int32 → (Nat → Int32) → Prop) (k7 : ∀ {H : Heap} {locs : List Loc} {ls : Array Slot} (v1 : Int32) (many : Int32) (line : Nat → Int32), VW g A s.heap H locs (gX12 g a_this a_this_z a_this_saved a_this_text a_this_line a_this_aside a_this_read a_this_fewest thrown z saves saved length text many line aside isWord entries rdA fewest h) → lv_has ls 4 [(0, .ref a_this), (1, .int v1)] → K7 v1 many line → W p l e (kR 3 68 0 0) s m ([.ref a_this] : List Value).toArray below meth c H locs 0 0 Q (F0 m 7 ls [])), ∀ (n : Nat), ∀ {H : Heap} {locs : List Loc} {ls : Array Slot} (v1 : Int32) (v2 : Int32) (many : Int32) (line : Nat → Int32) (V : VW g A s.heap H locs (gX12 g a_this a_this_z a_this_saved a_this_text a_this_line a_this_aside a_this_read a_this_fewest thrown z saves saved length text many line aside isWord entries rdA fewest h)) (hl : lv_has ls 4 [(0, .ref a_this), (1, .int v1), (2, .int v2)]) (hw : wX12_layLine_17 z length text fewest K7 P n v1 v2 many line), W p l e (kR 3 68 0 0) s m ([.ref a_this] : List Value).toArray below meth c H locs 0 0 Q (F0 m 17 ls []) := by
    intro K7 k7
    intro n
    induction n with
    | zero => intro _ _ _ _ _ _ _ V hl hw; exact hw.elim
    | succ n ih =>
      intro H locs ls v1 v2 many line V hl hw
      refine lv_aload_n hx hb dX12_layLine_17 rfl (lv_at hl 0 rfl) ?_
      refine lv_iload_n hx hb dX12_layLine_18 rfl (lv_at hl 2 rfl) ?_
      refine lv_iload_n hx hb dX12_layLine_19 rfl (lv_at hl 1 rfl) ?_
      refine kVi0 (rest := []) F hl V [0, 1, 2, 3, 4, 5, 6, 7] [] [0, 1, 2, 3, 4, 5, 6, 7] (gX12 g a_this a_this_z a_this_saved a_this_text a_this_line a_this_aside a_this_read a_this_fewest thrown z saves saved length text many line aside isWord entries rdA fewest h) a_this 8 0 rfl rfl (kX12_strokesWith l g a_this a_this_z a_this_saved a_this_text a_this_line a_this_aside a_this_read a_this_fewest thrown z saves saved length text many line aside isWord entries rdA fewest h v2 v1 _ hw) gX12_layLine_X12_strokesWith rfl 2 rfl hdX12_strokesWith rfl rfl (fun _ => rfl) rfl rfl rfl (by decide) ⟨Nat.le_of_ble_eq_true rfl, Nat.le_of_ble_eq_true rfl⟩ ⟨Nat.le_of_ble_eq_true rfl, Nat.le_of_ble_eq_true rfl⟩ (Nat.le_of_ble_eq_true rfl) rfl dX12_layLine_20 (fun r_20 H locs hw V => ?_)
      refine lv_aload_n hx hb dX12_layLine_23 rfl (lv_at hl 0 rfl) ?_
      refine kget F V 8 12 0 rfl rfl iX12_layLine_X12 fX12_layLine_28 (by decide) rfl rfl dX12_layLine_24 ?_
      refine lv_iload_n hx hb dX12_layLine_27 rfl (lv_at hl 1 rfl) ?_
      refine kiald F V 7 rfl hw.1 dX12_layLine_28 ?_
      have hw := hw.2
      refine lv_icmp_eq (tgt := 38) hx hb dX12_layLine_29 (by decide) (fun c_29 => ?_) (fun c_29 => ?_)
      · have hw := hw.1 c_29
        refine lv_iconst (v := 0) hx hb dX12_layLine_38 (by decide) ?_
        refine lv_istore_n (lv' := [(3, .int 0), (0, .ref a_this), (1, .int v1), (2, .int v2)]) hx hb dX12_layLine_39 rfl hl (by decide) rfl (fun ls hl => ?_)
        obtain ⟨n_40, hw⟩ := hw
        exact B40 K7 k7 n_40 v1 v2 0 many line V (lv_sub hl [1, 2, 3, 0] rfl) hw
      · have hw := hw.2 c_29
        refine lv_iinc (v := v2 + 1) (lv' := [(2, .int (v2 + 1)), (0, .ref a_this), (1, .int v1)]) hx hb dX12_layLine_32 hl (k := 2) rfl rfl (by decide) rfl (fun ls hl => ?_)
        refine lv_goto (tgt := 17) hx hb dX12_layLine_35 (by decide) ?_
        exact ih v1 (v2 + 1) many line V (lv_sub hl [1, 2, 0] rfl) hw
  have B7 :  ∀ (n : Nat), ∀ {H : Heap} {locs : List Loc} {ls : Array Slot} (v1 : Int32) (many : Int32) (line : Nat → Int32) (V : VW g A s.heap H locs (gX12 g a_this a_this_z a_this_saved a_this_text a_this_line a_this_aside a_this_read a_this_fewest thrown z saves saved length text many line aside isWord entries rdA fewest h)) (hl : lv_has ls 4 [(0, .ref a_this), (1, .int v1)]) (hw : wX12_layLine_7 z length text fewest P n v1 many line), W p l e (kR 3 68 0 0) s m ([.ref a_this] : List Value).toArray below meth c H locs 0 0 Q (F0 m 7 ls []) := by
    intro n
    induction n with
    | zero => intro _ _ _ _ _ _ V hl hw; exact hw.elim
    | succ n ih =>
      intro H locs ls v1 many line V hl hw
      refine lv_iload_n hx hb dX12_layLine_7 rfl (lv_at hl 1 rfl) ?_
      refine lv_aload_n hx hb dX12_layLine_8 rfl (lv_at hl 0 rfl) ?_
      refine kget F V 8 4 0 rfl rfl iX12_layLine_X12 fX12_layLine_121 (by decide) rfl rfl dX12_layLine_9 ?_
      refine lv_icmp_ge (tgt := 108) hx hb dX12_layLine_12 (by decide) (fun c_12 => ?_) (fun c_12 => ?_)
      · have hw := hw.1 c_12
        exact ret _ _ _ _ _ _ dX12_layLine_108 V hw
      · have hw := hw.2 c_12
        refine lv_iconst (v := 0) hx hb dX12_layLine_15 (by decide) ?_
        refine lv_istore_n (lv' := [(2, .int 0), (0, .ref a_this), (1, .int v1)]) hx hb dX12_layLine_16 rfl hl (by decide) rfl (fun ls hl => ?_)
        obtain ⟨n_17, hw⟩ := hw
        exact B17 (wX12_layLine_7 z length text fewest P n) ih n_17 v1 0 many line V (lv_sub hl [1, 2, 0] rfl) hw
  refine lv_aload_n hx hb dX12_layLine_0 rfl (lv_at hl 0 rfl) ?_
  refine lv_iconst (v := 0) hx hb dX12_layLine_1 (by decide) ?_
  refine kput F V 8 6 0 tyX12_ok nmX12 rfl rfl iX12_layLine_X12 fX12_layLine_54 (by decide) rfl rfl rfl rfl (Nat.le_of_ble_eq_true rfl) dX12_layLine_2 (fun H locs V => ?_)
  have V : VW g A s.heap H locs (gX12 g a_this a_this_z a_this_saved a_this_text a_this_line a_this_aside a_this_read a_this_fewest thrown z saves saved length text 0 line aside isWord entries rdA fewest h) := V
  refine lv_iconst (v := 0) hx hb dX12_layLine_5 (by decide) ?_
  refine lv_istore_n (lv' := [(1, .int 0), (0, .ref a_this)]) hx hb dX12_layLine_6 rfl hl (by decide) rfl (fun ls hl => ?_)
  obtain ⟨n_7, hw⟩ := hw
  exact B7  n_7 0 0 line V (lv_sub hl [1, 0] rfl) hw
theorem hdX12_readStroke : yX12_readStroke.cls = RX12 ∧ yX12_readStroke.cls ≠ "java/lang/invoke/MethodHandle" ∧ yX12_readStroke.cls ≠ "java/lang/invoke/VarHandle" ∧ (parseMethodDescriptor yX12_readStroke.desc).map (fun d => d.parameters.length) = some 2 := by decide +kernel
theorem fX12_readStroke_121 : Cond.fieldLink RX12 121 RX12 "length" "I" ∈ wsX12_readStroke := by decide +kernel
theorem iX12_readStroke_X12 : ∀ w ∈ u_ws RX12 TX12 14, w ∈ wsX12_readStroke := by decide +kernel
theorem fX12_readStroke_16 : Cond.fieldLink RX12 16 RX12 "text" "[I" ∈ wsX12_readStroke := by decide +kernel
def wX12_readStroke_69 (length : Int32) (text : Nat → Int32) (p1 : Int32) (p2 : Int32) (K5 : Int32 → Int32 → Prop) (P : Int32 → Prop) (v3 : Int32) (v4 : Int32) : Prop := K5 v3 (v4 + 1)
def wX12_readStroke_68 (length : Int32) (text : Nat → Int32) (p1 : Int32) (p2 : Int32) (K5 : Int32 → Int32 → Prop) (P : Int32 → Prop) (v4 : Int32) (s0 : Int32) : Prop := wX12_readStroke_69 length text p1 p2 K5 P s0 v4
def wX12_readStroke_53 (length : Int32) (text : Nat → Int32) (p1 : Int32) (p2 : Int32) (K5 : Int32 → Int32 → Prop) (P : Int32 → Prop) (v3 : Int32) (v4 : Int32) (s0 : Int32) : Prop := (s0 = 0 → wX12_readStroke_68 length text p1 p2 K5 P v4 (-12)) ∧ (¬ (s0 = 0) → wX12_readStroke_68 length text p1 p2 K5 P v4 (v3 + 1))
def wX12_readStroke_52 (length : Int32) (text : Nat → Int32) (p1 : Int32) (p2 : Int32) (K5 : Int32 → Int32 → Prop) (P : Int32 → Prop) (v3 : Int32) (v4 : Int32) : Prop := wX12_readStroke_53 length text p1 p2 K5 P v3 v4 0
def wX12_readStroke_5 (length : Int32) (text : Nat → Int32) (p1 : Int32) (p2 : Int32) (P : Int32 → Prop) : Nat → Int32 → Int32 → Prop
  | 0, _, _ => False
  | n + 1, v3, v4 => (12 ≤ v4 → P v3) ∧ (¬ (12 ≤ v4) → (¬ ((p1 >>> (v4 &&& 31)) &&& 1) = 1 → wX12_readStroke_69 length text p1 p2 (wX12_readStroke_5 length text p1 p2 P n) P v3 v4) ∧ (((p1 >>> (v4 &&& 31)) &&& 1) = 1 → (v3 < 0 → wX12_readStroke_52 length text p1 p2 (wX12_readStroke_5 length text p1 p2 P n) P v3 v4) ∧ (¬ (v3 < 0) → (length ≤ v3 → wX12_readStroke_52 length text p1 p2 (wX12_readStroke_5 length text p1 p2 P n) P v3 v4) ∧ (¬ (length ≤ v3) → vp_in v3 60 ∧ wX12_keyLetter v4 (fun r_42 => (¬ (text v3.toNatClampNeg) = r_42 → wX12_readStroke_52 length text p1 p2 (wX12_readStroke_5 length text p1 p2 P n) P v3 v4) ∧ ((text v3.toNatClampNeg) = r_42 → wX12_readStroke_53 length text p1 p2 (wX12_readStroke_5 length text p1 p2 P n) P v3 v4 1))))))
def wX12_readStroke (length : Int32) (text : Nat → Int32) (p1 : Int32) (p2 : Int32) (P : Int32 → Prop) : Prop := ∃ n_5, wX12_readStroke_5 length text p1 p2 P n_5 p2 0
set_option maxHeartbeats 4000000 in
set_option maxRecDepth 100000 in
theorem kX12_readStroke (l : Launch) (g : kT) (a_this : Nat) (a_this_z : Nat) (a_this_saved : Nat) (a_this_text : Nat) (a_this_line : Nat) (a_this_aside : Nat) (a_this_read : Nat) (a_this_fewest : Nat) (thrown : Int32) (z : Nat → Int32) (saves : Int32) (saved : Nat → Int32) (length : Int32) (text : Nat → Int32) (many : Int32) (line : Nat → Int32) (aside : Nat → Int32) (isWord : Int32) (entries : Int32) (rdA : Nat → Int32) (fewest : Nat → Int32) (h : Int64) (p1 : Int32) (p2 : Int32) (P : Int32 → Prop) (hw : wX12_readStroke length text p1 p2 P) : Ki0 l g yX12_readStroke wsX12_readStroke 1 20 0 0 [.ref a_this, .int p1, .int p2] (gX12 g a_this a_this_z a_this_saved a_this_text a_this_line a_this_aside a_this_read a_this_fewest thrown z saves saved length text many line aside isWord entries rdA fewest h) P (gX12 g a_this a_this_z a_this_saved a_this_text a_this_line a_this_aside a_this_read a_this_fewest thrown z saves saved length text many line aside isWord entries rdA fewest h) := by
  refine Ki0.mk (cc := cX12_readStroke) (nL := 6) (ty := .int) (by decide +kernel) rfl (Nat.le_of_ble_eq_true rfl) ?_
  intro p e s m below meth c A Q ls F hl V ret
  have hx := F.x
  have hb := F.b
  have hl : lv_has ls 6 [(0, .ref a_this), (1, .int p1), (2, .int p2)] := hl
  have B69 : ∀ (K5 : Int32 → Int32 → Prop) (k5 : ∀ {H : Heap} {locs : List Loc} {ls : Array Slot} (v3 : Int32) (v4 : Int32), VW g A s.heap H locs (gX12 g a_this a_this_z a_this_saved a_this_text a_this_line a_this_aside a_this_read a_this_fewest thrown z saves saved length text many line aside isWord entries rdA fewest h) → lv_has ls 6 [(0, .ref a_this), (1, .int p1), (3, .int v3), (4, .int v4)] → K5 v3 v4 → W p l e (kR 1 20 0 0) s m ([.ref a_this, .int p1, .int p2] : List Value).toArray below meth c H locs 0 0 Q (F0 m 5 ls [])), ∀ {H : Heap} {locs : List Loc} {ls : Array Slot} (v3 : Int32) (v4 : Int32) (V : VW g A s.heap H locs (gX12 g a_this a_this_z a_this_saved a_this_text a_this_line a_this_aside a_this_read a_this_fewest thrown z saves saved length text many line aside isWord entries rdA fewest h)) (hl : lv_has ls 6 [(0, .ref a_this), (1, .int p1), (3, .int v3), (4, .int v4)]) (hw : wX12_readStroke_69 length text p1 p2 K5 P v3 v4), W p l e (kR 1 20 0 0) s m ([.ref a_this, .int p1, .int p2] : List Value).toArray below meth c H locs 0 0 Q (F0 m 69 ls []) := by
    intro K5 k5 H locs ls v3 v4 V hl hw
    refine lv_iinc (v := v4 + 1) (lv' := [(4, .int (v4 + 1)), (0, .ref a_this), (1, .int p1), (3, .int v3)]) hx hb dX12_readStroke_69 hl (k := 3) rfl rfl (by decide) rfl (fun ls hl => ?_)
    refine lv_goto (tgt := 5) hx hb dX12_readStroke_72 (by decide) ?_
    exact k5 v3 (v4 + 1) V (lv_sub hl [1, 2, 3, 0] rfl) hw
  have B68 : ∀ (K5 : Int32 → Int32 → Prop) (k5 : ∀ {H : Heap} {locs : List Loc} {ls : Array Slot} (v3 : Int32) (v4 : Int32), VW g A s.heap H locs (gX12 g a_this a_this_z a_this_saved a_this_text a_this_line a_this_aside a_this_read a_this_fewest thrown z saves saved length text many line aside isWord entries rdA fewest h) → lv_has ls 6 [(0, .ref a_this), (1, .int p1), (3, .int v3), (4, .int v4)] → K5 v3 v4 → W p l e (kR 1 20 0 0) s m ([.ref a_this, .int p1, .int p2] : List Value).toArray below meth c H locs 0 0 Q (F0 m 5 ls [])), ∀ {H : Heap} {locs : List Loc} {ls : Array Slot} (v4 : Int32) (s0 : Int32) (V : VW g A s.heap H locs (gX12 g a_this a_this_z a_this_saved a_this_text a_this_line a_this_aside a_this_read a_this_fewest thrown z saves saved length text many line aside isWord entries rdA fewest h)) (hl : lv_has ls 6 [(0, .ref a_this), (1, .int p1), (4, .int v4)]) (hw : wX12_readStroke_68 length text p1 p2 K5 P v4 s0), W p l e (kR 1 20 0 0) s m ([.ref a_this, .int p1, .int p2] : List Value).toArray below meth c H locs 0 0 Q (F0 m 68 ls [.int s0]) := by
    intro K5 k5 H locs ls v4 s0 V hl hw
    refine lv_istore_n (lv' := [(3, .int s0), (0, .ref a_this), (1, .int p1), (4, .int v4)]) hx hb dX12_readStroke_68 rfl hl (by decide) rfl (fun ls hl => ?_)
    exact B69 K5 k5 s0 v4 V (lv_sub hl [1, 2, 0, 3] rfl) hw
  have B53 : ∀ (K5 : Int32 → Int32 → Prop) (k5 : ∀ {H : Heap} {locs : List Loc} {ls : Array Slot} (v3 : Int32) (v4 : Int32), VW g A s.heap H locs (gX12 g a_this a_this_z a_this_saved a_this_text a_this_line a_this_aside a_this_read a_this_fewest thrown z saves saved length text many line aside isWord entries rdA fewest h) → lv_has ls 6 [(0, .ref a_this), (1, .int p1), (3, .int v3), (4, .int v4)] → K5 v3 v4 → W p l e (kR 1 20 0 0) s m ([.ref a_this, .int p1, .int p2] : List Value).toArray below meth c H locs 0 0 Q (F0 m 5 ls [])), ∀ {H : Heap} {locs : List Loc} {ls : Array Slot} (v3 : Int32) (v4 : Int32) (s0 : Int32) (V : VW g A s.heap H locs (gX12 g a_this a_this_z a_this_saved a_this_text a_this_line a_this_aside a_this_read a_this_fewest thrown z saves saved length text many line aside isWord entries rdA fewest h)) (hl : lv_has ls 6 [(0, .ref a_this), (1, .int p1), (3, .int v3), (4, .int v4)]) (hw : wX12_readStroke_53 length text p1 p2 K5 P v3 v4 s0), W p l e (kR 1 20 0 0) s m ([.ref a_this, .int p1, .int p2] : List Value).toArray below meth c H locs 0 0 Q (F0 m 53 ls [.int s0]) := by
    intro K5 k5 H locs ls v3 v4 s0 V hl hw
    refine lv_istore (lv' := [(5, .int s0), (0, .ref a_this), (1, .int p1), (3, .int v3), (4, .int v4)]) hx hb dX12_readStroke_53 hl (by decide) rfl (fun ls hl => ?_)
    refine lv_iload hx hb dX12_readStroke_55 (lv_at hl 0 rfl) ?_
    refine lv_if_eq (tgt := 66) hx hb dX12_readStroke_57 (by decide) (fun c_57 => ?_) (fun c_57 => ?_)
    · have hw := hw.1 c_57
      refine lv_bipush (v := (-12)) hx hb dX12_readStroke_66 (by decide) ?_
      exact B68 K5 k5 v4 (-12) V (lv_sub hl [1, 2, 4] rfl) hw
    · have hw := hw.2 c_57
      refine lv_iload_n hx hb dX12_readStroke_60 rfl (lv_at hl 3 rfl) ?_
      refine lv_iconst (v := 1) hx hb dX12_readStroke_61 (by decide) ?_
      refine lv_iadd hx hb dX12_readStroke_62 ?_
      refine lv_goto (tgt := 68) hx hb dX12_readStroke_63 (by decide) ?_
      exact B68 K5 k5 v4 (v3 + 1) V (lv_sub hl [1, 2, 4] rfl) hw
  have B52 : ∀ (K5 : Int32 → Int32 → Prop) (k5 : ∀ {H : Heap} {locs : List Loc} {ls : Array Slot} (v3 : Int32) (v4 : Int32), VW g A s.heap H locs (gX12 g a_this a_this_z a_this_saved a_this_text a_this_line a_this_aside a_this_read a_this_fewest thrown z saves saved length text many line aside isWord entries rdA fewest h) → lv_has ls 6 [(0, .ref a_this), (1, .int p1), (3, .int v3), (4, .int v4)] → K5 v3 v4 → W p l e (kR 1 20 0 0) s m ([.ref a_this, .int p1, .int p2] : List Value).toArray below meth c H locs 0 0 Q (F0 m 5 ls [])), ∀ {H : Heap} {locs : List Loc} {ls : Array Slot} (v3 : Int32) (v4 : Int32) (V : VW g A s.heap H locs (gX12 g a_this a_this_z a_this_saved a_this_text a_this_line a_this_aside a_this_read a_this_fewest thrown z saves saved length text many line aside isWord entries rdA fewest h)) (hl : lv_has ls 6 [(0, .ref a_this), (1, .int p1), (3, .int v3), (4, .int v4)]) (hw : wX12_readStroke_52 length text p1 p2 K5 P v3 v4), W p l e (kR 1 20 0 0) s m ([.ref a_this, .int p1, .int p2] : List Value).toArray below meth c H locs 0 0 Q (F0 m 52 ls []) := by
    intro K5 k5 H locs ls v3 v4 V hl hw
    refine lv_iconst (v := 0) hx hb dX12_readStroke_52 (by decide) ?_
    exact B53 K5 k5 v3 v4 0 V hl hw
  have B5 :  ∀ (n : Nat), ∀ {H : Heap} {locs : List Loc} {ls : Array Slot} (v3 : Int32) (v4 : Int32) (V : VW g A s.heap H locs (gX12 g a_this a_this_z a_this_saved a_this_text a_this_line a_this_aside a_this_read a_this_fewest thrown z saves saved length text many line aside isWord entries rdA fewest h)) (hl : lv_has ls 6 [(0, .ref a_this), (1, .int p1), (3, .int v3), (4, .int v4)]) (hw : wX12_readStroke_5 length text p1 p2 P n v3 v4), W p l e (kR 1 20 0 0) s m ([.ref a_this, .int p1, .int p2] : List Value).toArray below meth c H locs 0 0 Q (F0 m 5 ls []) := by
    intro n
    induction n with
    | zero => intro _ _ _ _ _ V hl hw; exact hw.elim
    | succ n ih =>
      intro H locs ls v3 v4 V hl hw
      refine lv_iload hx hb dX12_readStroke_5 (lv_at hl 3 rfl) ?_
      refine lv_bipush (v := 12) hx hb dX12_readStroke_7 (by decide) ?_
      refine lv_icmp_ge (tgt := 75) hx hb dX12_readStroke_9 (by decide) (fun c_9 => ?_) (fun c_9 => ?_)
      · have hw := hw.1 c_9
        refine lv_iload_n hx hb dX12_readStroke_75 rfl (lv_at hl 2 rfl) ?_
        exact ret _ _ _ _ _ rfl dX12_readStroke_76 V hw
      · have hw := hw.2 c_9
        refine lv_iload_n hx hb dX12_readStroke_12 rfl (lv_at hl 1 rfl) ?_
        refine lv_iload hx hb dX12_readStroke_13 (lv_at hl 3 rfl) ?_
        refine lv_ishr hx hb dX12_readStroke_15 ?_
        refine lv_iconst (v := 1) hx hb dX12_readStroke_16 (by decide) ?_
        refine lv_iand hx hb dX12_readStroke_17 ?_
        refine lv_iconst (v := 1) hx hb dX12_readStroke_18 (by decide) ?_
        refine lv_icmp_ne (tgt := 69) hx hb dX12_readStroke_19 (by decide) (fun c_19 => ?_) (fun c_19 => ?_)
        · have hw := hw.1 c_19
          exact B69 (wX12_readStroke_5 length text p1 p2 P n) ih v3 v4 V hl hw
        · have hw := hw.2 c_19
          refine lv_iload_n hx hb dX12_readStroke_22 rfl (lv_at hl 2 rfl) ?_
          refine lv_if_lt (tgt := 52) hx hb dX12_readStroke_23 (by decide) (fun c_23 => ?_) (fun c_23 => ?_)
          · have hw := hw.1 c_23
            exact B52 (wX12_readStroke_5 length text p1 p2 P n) ih v3 v4 V hl hw
          · have hw := hw.2 c_23
            refine lv_iload_n hx hb dX12_readStroke_26 rfl (lv_at hl 2 rfl) ?_
            refine lv_aload_n hx hb dX12_readStroke_27 rfl (lv_at hl 0 rfl) ?_
            refine kget F V 8 4 0 rfl rfl iX12_readStroke_X12 fX12_readStroke_121 (by decide) rfl rfl dX12_readStroke_28 ?_
            refine lv_icmp_ge (tgt := 52) hx hb dX12_readStroke_31 (by decide) (fun c_31 => ?_) (fun c_31 => ?_)
            · have hw := hw.1 c_31
              exact B52 (wX12_readStroke_5 length text p1 p2 P n) ih v3 v4 V hl hw
            · have hw := hw.2 c_31
              refine lv_aload_n hx hb dX12_readStroke_34 rfl (lv_at hl 0 rfl) ?_
              refine kget F V 8 5 0 rfl rfl iX12_readStroke_X12 fX12_readStroke_16 (by decide) rfl rfl dX12_readStroke_35 ?_
              refine lv_iload_n hx hb dX12_readStroke_38 rfl (lv_at hl 2 rfl) ?_
              refine kiald F V 3 rfl hw.1 dX12_readStroke_39 ?_
              have hw := hw.2
              refine lv_iload hx hb dX12_readStroke_40 (lv_at hl 3 rfl) ?_
              refine kSi0n (rest := [.int (text v3.toNatClampNeg)]) F hl V (kX12_keyLetter l g v4 _ hw) gX12_readStroke_X12_keyLetter rfl 1 rfl hdX12_keyLetter ⟨Nat.le_of_ble_eq_true rfl, Nat.le_of_ble_eq_true rfl⟩ ⟨Nat.le_of_ble_eq_true rfl, Nat.le_of_ble_eq_true rfl⟩ (Nat.le_of_ble_eq_true rfl) rfl dX12_readStroke_42 (fun r_42 H locs hw V => ?_)
              refine lv_icmp_ne (tgt := 52) hx hb dX12_readStroke_45 (by decide) (fun c_45 => ?_) (fun c_45 => ?_)
              · have hw := hw.1 c_45
                exact B52 (wX12_readStroke_5 length text p1 p2 P n) ih v3 v4 V hl hw
              · have hw := hw.2 c_45
                refine lv_iconst (v := 1) hx hb dX12_readStroke_48 (by decide) ?_
                refine lv_goto (tgt := 53) hx hb dX12_readStroke_49 (by decide) ?_
                exact B53 (wX12_readStroke_5 length text p1 p2 P n) ih v3 v4 1 V hl hw
  refine lv_iload_n hx hb dX12_readStroke_0 rfl (lv_at hl 2 rfl) ?_
  refine lv_istore_n (lv' := [(3, .int p2), (0, .ref a_this), (1, .int p1), (2, .int p2)]) hx hb dX12_readStroke_1 rfl hl (by decide) rfl (fun ls hl => ?_)
  refine lv_iconst (v := 0) hx hb dX12_readStroke_2 (by decide) ?_
  refine lv_istore (lv' := [(4, .int 0), (3, .int p2), (0, .ref a_this), (1, .int p1), (2, .int p2)]) hx hb dX12_readStroke_3 hl (by decide) rfl (fun ls hl => ?_)
  obtain ⟨n_5, hw⟩ := hw
  exact B5  n_5 p2 0 V (lv_sub hl [2, 3, 1, 0] rfl) hw
theorem hdX12_backNow : yX12_backNow.cls = RX12 ∧ yX12_backNow.cls ≠ "java/lang/invoke/MethodHandle" ∧ yX12_backNow.cls ≠ "java/lang/invoke/VarHandle" ∧ (parseMethodDescriptor yX12_backNow.desc).map (fun d => d.parameters.length) = some 0 := by decide +kernel
theorem fX12_backNow_54 : Cond.fieldLink RX12 54 RX12 "many" "I" ∈ wsX12_backNow := by decide +kernel
theorem iX12_backNow_X12 : ∀ w ∈ u_ws RX12 TX12 14, w ∈ wsX12_backNow := by decide +kernel
theorem fX12_backNow_19 : Cond.fieldLink RX12 19 RX12 "line" "[I" ∈ wsX12_backNow := by decide +kernel
theorem fX12_backNow_7 : Cond.fieldLink RX12 7 RX12 "z" "[I" ∈ wsX12_backNow := by decide +kernel
theorem fX12_backNow_121 : Cond.fieldLink RX12 121 RX12 "length" "I" ∈ wsX12_backNow := by decide +kernel
def wX12_backNow_101 (z : Nat → Int32) (length : Int32) (text : Nat → Int32) (P : Int32 → Int32 → (Nat → Int32) → (Nat → Int32) → Prop) (v1 : Int32) (v2 : Int32) (many : Int32) (line : Nat → Int32) (fewest : Nat → Int32) : Prop := (¬ v2 = many → P 0 many line fewest) ∧ (v2 = many → (¬ v1 = length → P 0 many line fewest) ∧ (v1 = length → P 1 many line fewest))
def wX12_backNow_98 (z : Nat → Int32) (length : Int32) (text : Nat → Int32) (K18 : Int32 → Int32 → Int32 → (Nat → Int32) → (Nat → Int32) → Prop) (P : Int32 → Int32 → (Nat → Int32) → (Nat → Int32) → Prop) (v1 : Int32) (v2 : Int32) (many : Int32) (line : Nat → Int32) (fewest : Nat → Int32) : Prop := K18 v1 v2 many line fewest
def wX12_backNow_85 (z : Nat → Int32) (length : Int32) (text : Nat → Int32) (K18 : Int32 → Int32 → Int32 → (Nat → Int32) → (Nat → Int32) → Prop) (P : Int32 → Int32 → (Nat → Int32) → (Nat → Int32) → Prop) (v2 : Int32) (v3 : Int32) (s0 : Int32) (many : Int32) (line : Nat → Int32) (fewest : Nat → Int32) : Prop := wX12_entryAt v3 (fun r_92 => vp_in r_92 1317 ∧ ∀ v2_97 : Int32, v2_97 = (v2 + (z r_92.toNatClampNeg)) → wX12_backNow_98 z length text K18 P s0 v2_97 many line fewest)
def wX12_backNow_18 (z : Nat → Int32) (length : Int32) (text : Nat → Int32) (P : Int32 → Int32 → (Nat → Int32) → (Nat → Int32) → Prop) : Nat → Int32 → Int32 → Int32 → (Nat → Int32) → (Nat → Int32) → Prop
  | 0, _, _, _, _, _ => False
  | n + 1, v1, v2, many, line, fewest => (many ≤ v2 → wX12_backNow_101 z length text P v1 v2 many line fewest) ∧ (¬ (many ≤ v2) → (v1 < 0 → wX12_backNow_101 z length text P v1 v2 many line fewest) ∧ (¬ (v1 < 0) → wX12_longestAt z many line v2 (fun r_32 => (¬ r_32 = (-1) → wX12_isWordAt z length text r_32 v1 (fun r_62 => (r_62 = 0 → wX12_backNow_85 z length text (wX12_backNow_18 z length text P n) P v2 r_32 (-1) many line fewest) ∧ (¬ (r_62 = 0) → wX12_entryAt r_32 (fun r_74 => vp_in (r_74 + 5) 1317 ∧ wX12_backNow_85 z length text (wX12_backNow_18 z length text P n) P v2 r_32 (v1 + (z (r_74 + 5).toNatClampNeg)) many line fewest)))) ∧ (r_32 = (-1) → vp_in v2 240 ∧ wX12_readStroke length text (line v2.toNatClampNeg) v1 (fun r_49 => wX12_backNow_98 z length text (wX12_backNow_18 z length text P n) P r_49 (v2 + 1) many line fewest)))))
def wX12_backNow (z : Nat → Int32) (length : Int32) (text : Nat → Int32) (P : Int32 → Int32 → (Nat → Int32) → (Nat → Int32) → Prop) (many : Int32) (line : Nat → Int32) (fewest : Nat → Int32) : Prop := wX12_fewestNow z length text (fun r_1 fewest_1 => (¬ r_1 = (-1) → wX12_layLine z length text fewest_1 (fun many_11 line_11 => ∃ n_18, wX12_backNow_18 z length text P n_18 0 0 many_11 line_11 fewest_1) many line) ∧ (r_1 = (-1) → P (-1) many line fewest_1)) fewest
set_option maxHeartbeats 4000000 in
set_option maxRecDepth 100000 in
theorem kX12_backNow (l : Launch) (g : kT) (a_this : Nat) (a_this_z : Nat) (a_this_saved : Nat) (a_this_text : Nat) (a_this_line : Nat) (a_this_aside : Nat) (a_this_read : Nat) (a_this_fewest : Nat) (thrown : Int32) (z : Nat → Int32) (saves : Int32) (saved : Nat → Int32) (length : Int32) (text : Nat → Int32) (many : Int32) (line : Nat → Int32) (aside : Nat → Int32) (isWord : Int32) (entries : Int32) (rdA : Nat → Int32) (fewest : Nat → Int32) (h : Int64) (P : Int32 → Int32 → (Nat → Int32) → (Nat → Int32) → Prop) (hw : wX12_backNow z length text P many line fewest) : Ki3 l g yX12_backNow wsX12_backNow 4 91 0 0 [.ref a_this] (gX12 g a_this a_this_z a_this_saved a_this_text a_this_line a_this_aside a_this_read a_this_fewest thrown z saves saved length text many line aside isWord entries rdA fewest h) P (fun many line fewest => (gX12 g a_this a_this_z a_this_saved a_this_text a_this_line a_this_aside a_this_read a_this_fewest thrown z saves saved length text many line aside isWord entries rdA fewest h)) := by
  refine Ki3.mk (cc := cX12_backNow) (nL := 4) (ty := .int) (by decide +kernel) rfl (Nat.le_of_ble_eq_true rfl) ?_
  intro p e s m below meth c A Q ls F hl V ret
  have hx := F.x
  have hb := F.b
  have hl : lv_has ls 4 [(0, .ref a_this)] := hl
  have B101 :  ∀ {H : Heap} {locs : List Loc} {ls : Array Slot} (v1 : Int32) (v2 : Int32) (many : Int32) (line : Nat → Int32) (fewest : Nat → Int32) (V : VW g A s.heap H locs (gX12 g a_this a_this_z a_this_saved a_this_text a_this_line a_this_aside a_this_read a_this_fewest thrown z saves saved length text many line aside isWord entries rdA fewest h)) (hl : lv_has ls 4 [(0, .ref a_this), (1, .int v1), (2, .int v2)]) (hw : wX12_backNow_101 z length text P v1 v2 many line fewest), W p l e (kR 4 91 0 0) s m ([.ref a_this] : List Value).toArray below meth c H locs 0 0 Q (F0 m 101 ls []) := by
    intro  H locs ls v1 v2 many line fewest V hl hw
    refine lv_iload_n hx hb dX12_backNow_101 rfl (lv_at hl 2 rfl) ?_
    refine lv_aload_n hx hb dX12_backNow_102 rfl (lv_at hl 0 rfl) ?_
    refine kget F V 8 6 0 rfl rfl iX12_backNow_X12 fX12_backNow_54 (by decide) rfl rfl dX12_backNow_103 ?_
    refine lv_icmp_ne (tgt := 121) hx hb dX12_backNow_106 (by decide) (fun c_106 => ?_) (fun c_106 => ?_)
    · have hw := hw.1 c_106
      refine lv_iconst (v := 0) hx hb dX12_backNow_121 (by decide) ?_
      exact ret _ _ _ _ _ _ _ _ rfl dX12_backNow_122 V hw
    · have hw := hw.2 c_106
      refine lv_iload_n hx hb dX12_backNow_109 rfl (lv_at hl 1 rfl) ?_
      refine lv_aload_n hx hb dX12_backNow_110 rfl (lv_at hl 0 rfl) ?_
      refine kget F V 8 4 0 rfl rfl iX12_backNow_X12 fX12_backNow_121 (by decide) rfl rfl dX12_backNow_111 ?_
      refine lv_icmp_ne (tgt := 121) hx hb dX12_backNow_114 (by decide) (fun c_114 => ?_) (fun c_114 => ?_)
      · have hw := hw.1 c_114
        refine lv_iconst (v := 0) hx hb dX12_backNow_121 (by decide) ?_
        exact ret _ _ _ _ _ _ _ _ rfl dX12_backNow_122 V hw
      · have hw := hw.2 c_114
        refine lv_iconst (v := 1) hx hb dX12_backNow_117 (by decide) ?_
        refine lv_goto (tgt := 122) hx hb dX12_backNow_118 (by decide) ?_
        exact ret _ _ _ _ _ _ _ _ rfl dX12_backNow_122 V hw
  have B98 : ∀ (K18 : Int32 → Int32 → Int32 → (Nat → Int32) → (Nat → Int32) → Prop) (k18 : ∀ {H : Heap} {locs : List Loc} {ls : Array Slot} (v1 : Int32) (v2 : Int32) (many : Int32) (line : Nat → Int32) (fewest : Nat → Int32), VW g A s.heap H locs (gX12 g a_this a_this_z a_this_saved a_this_text a_this_line a_this_aside a_this_read a_this_fewest thrown z saves saved length text many line aside isWord entries rdA fewest h) → lv_has ls 4 [(0, .ref a_this), (1, .int v1), (2, .int v2)] → K18 v1 v2 many line fewest → W p l e (kR 4 91 0 0) s m ([.ref a_this] : List Value).toArray below meth c H locs 0 0 Q (F0 m 18 ls [])), ∀ {H : Heap} {locs : List Loc} {ls : Array Slot} (v1 : Int32) (v2 : Int32) (many : Int32) (line : Nat → Int32) (fewest : Nat → Int32) (V : VW g A s.heap H locs (gX12 g a_this a_this_z a_this_saved a_this_text a_this_line a_this_aside a_this_read a_this_fewest thrown z saves saved length text many line aside isWord entries rdA fewest h)) (hl : lv_has ls 4 [(0, .ref a_this), (1, .int v1), (2, .int v2)]) (hw : wX12_backNow_98 z length text K18 P v1 v2 many line fewest), W p l e (kR 4 91 0 0) s m ([.ref a_this] : List Value).toArray below meth c H locs 0 0 Q (F0 m 98 ls []) := by
    intro K18 k18 H locs ls v1 v2 many line fewest V hl hw
    refine lv_goto (tgt := 18) hx hb dX12_backNow_98 (by decide) ?_
    exact k18 v1 v2 many line fewest V hl hw
  have B85 : ∀ (K18 : Int32 → Int32 → Int32 → (Nat → Int32) → (Nat → Int32) → Prop) (k18 : ∀ {H : Heap} {locs : List Loc} {ls : Array Slot} (v1 : Int32) (v2 : Int32) (many : Int32) (line : Nat → Int32) (fewest : Nat → Int32), VW g A s.heap H locs (gX12 g a_this a_this_z a_this_saved a_this_text a_this_line a_this_aside a_this_read a_this_fewest thrown z saves saved length text many line aside isWord entries rdA fewest h) → lv_has ls 4 [(0, .ref a_this), (1, .int v1), (2, .int v2)] → K18 v1 v2 many line fewest → W p l e (kR 4 91 0 0) s m ([.ref a_this] : List Value).toArray below meth c H locs 0 0 Q (F0 m 18 ls [])), ∀ {H : Heap} {locs : List Loc} {ls : Array Slot} (v2 : Int32) (v3 : Int32) (s0 : Int32) (many : Int32) (line : Nat → Int32) (fewest : Nat → Int32) (V : VW g A s.heap H locs (gX12 g a_this a_this_z a_this_saved a_this_text a_this_line a_this_aside a_this_read a_this_fewest thrown z saves saved length text many line aside isWord entries rdA fewest h)) (hl : lv_has ls 4 [(0, .ref a_this), (2, .int v2), (3, .int v3)]) (hw : wX12_backNow_85 z length text K18 P v2 v3 s0 many line fewest), W p l e (kR 4 91 0 0) s m ([.ref a_this] : List Value).toArray below meth c H locs 0 0 Q (F0 m 85 ls [.int s0]) := by
    intro K18 k18 H locs ls v2 v3 s0 many line fewest V hl hw
    refine lv_istore_n (lv' := [(1, .int s0), (0, .ref a_this), (2, .int v2), (3, .int v3)]) hx hb dX12_backNow_85 rfl hl (by decide) rfl (fun ls hl => ?_)
    refine lv_iload_n hx hb dX12_backNow_86 rfl (lv_at hl 2 rfl) ?_
    refine lv_aload_n hx hb dX12_backNow_87 rfl (lv_at hl 1 rfl) ?_
    refine kget F V 8 1 0 rfl rfl iX12_backNow_X12 fX12_backNow_7 (by decide) rfl rfl dX12_backNow_88 ?_
    refine lv_iload_n hx hb dX12_backNow_91 rfl (lv_at hl 3 rfl) ?_
    refine kSi0n (rest := [.ref a_this_z, .int v2]) F hl V (kX12_entryAt l g v3 _ hw) gX12_backNow_X12_entryAt rfl 1 rfl hdX12_entryAt ⟨Nat.le_of_ble_eq_true rfl, Nat.le_of_ble_eq_true rfl⟩ ⟨Nat.le_of_ble_eq_true rfl, Nat.le_of_ble_eq_true rfl⟩ (Nat.le_of_ble_eq_true rfl) rfl dX12_backNow_92 (fun r_92 H locs hw V => ?_)
    refine kiald F V 1 rfl hw.1 dX12_backNow_95 ?_
    have hw := hw.2
    refine lv_iadd hx hb dX12_backNow_96 ?_
    refine lv_topi (fun v2_97 ev2_97 => ?_)
    have hw := hw v2_97 ev2_97
    refine lv_istore_n (lv' := [(2, .int v2_97), (1, .int s0), (0, .ref a_this), (3, .int v3)]) hx hb dX12_backNow_97 rfl hl (by decide) rfl (fun ls hl => ?_)
    exact B98 K18 k18 s0 v2_97 many line fewest V (lv_sub hl [2, 1, 0] rfl) hw
  have B18 :  ∀ (n : Nat), ∀ {H : Heap} {locs : List Loc} {ls : Array Slot} (v1 : Int32) (v2 : Int32) (many : Int32) (line : Nat → Int32) (fewest : Nat → Int32) (V : VW g A s.heap H locs (gX12 g a_this a_this_z a_this_saved a_this_text a_this_line a_this_aside a_this_read a_this_fewest thrown z saves saved length text many line aside isWord entries rdA fewest h)) (hl : lv_has ls 4 [(0, .ref a_this), (1, .int v1), (2, .int v2)]) (hw : wX12_backNow_18 z length text P n v1 v2 many line fewest), W p l e (kR 4 91 0 0) s m ([.ref a_this] : List Value).toArray below meth c H locs 0 0 Q (F0 m 18 ls []) := by
    intro n
    induction n with
    | zero => intro _ _ _ _ _ _ _ _ V hl hw; exact hw.elim
    | succ n ih =>
      intro H locs ls v1 v2 many line fewest V hl hw
      refine lv_iload_n hx hb dX12_backNow_18 rfl (lv_at hl 2 rfl) ?_
      refine lv_aload_n hx hb dX12_backNow_19 rfl (lv_at hl 0 rfl) ?_
      refine kget F V 8 6 0 rfl rfl iX12_backNow_X12 fX12_backNow_54 (by decide) rfl rfl dX12_backNow_20 ?_
      refine lv_icmp_ge (tgt := 101) hx hb dX12_backNow_23 (by decide) (fun c_23 => ?_) (fun c_23 => ?_)
      · have hw := hw.1 c_23
        exact B101  v1 v2 many line fewest V hl hw
      · have hw := hw.2 c_23
        refine lv_iload_n hx hb dX12_backNow_26 rfl (lv_at hl 1 rfl) ?_
        refine lv_if_lt (tgt := 101) hx hb dX12_backNow_27 (by decide) (fun c_27 => ?_) (fun c_27 => ?_)
        · have hw := hw.1 c_27
          exact B101  v1 v2 many line fewest V hl hw
        · have hw := hw.2 c_27
          refine lv_aload_n hx hb dX12_backNow_30 rfl (lv_at hl 0 rfl) ?_
          refine lv_iload_n hx hb dX12_backNow_31 rfl (lv_at hl 2 rfl) ?_
          refine kVi0 (rest := []) F hl V [0, 1, 2, 3, 4, 5, 6, 7] [] [0, 1, 2, 3, 4, 5, 6, 7] (gX12 g a_this a_this_z a_this_saved a_this_text a_this_line a_this_aside a_this_read a_this_fewest thrown z saves saved length text many line aside isWord entries rdA fewest h) a_this 8 0 rfl rfl (kX12_longestAt l g a_this a_this_z a_this_saved a_this_text a_this_line a_this_aside a_this_read a_this_fewest thrown z saves saved length text many line aside isWord entries rdA fewest h v2 _ hw) gX12_backNow_X12_longestAt rfl 1 rfl hdX12_longestAt rfl rfl (fun _ => rfl) rfl rfl rfl (by decide) ⟨Nat.le_of_ble_eq_true rfl, Nat.le_of_ble_eq_true rfl⟩ ⟨Nat.le_of_ble_eq_true rfl, Nat.le_of_ble_eq_true rfl⟩ (Nat.le_of_ble_eq_true rfl) rfl dX12_backNow_32 (fun r_32 H locs hw V => ?_)
          refine lv_istore_n (lv' := [(3, .int r_32), (0, .ref a_this), (1, .int v1), (2, .int v2)]) hx hb dX12_backNow_35 rfl hl (by decide) rfl (fun ls hl => ?_)
          refine lv_iload_n hx hb dX12_backNow_36 rfl (lv_at hl 0 rfl) ?_
          refine lv_iconst (v := (-1)) hx hb dX12_backNow_37 (by decide) ?_
          refine lv_icmp_ne (tgt := 59) hx hb dX12_backNow_38 (by decide) (fun c_38 => ?_) (fun c_38 => ?_)
          · have hw := hw.1 c_38
            refine lv_aload_n hx hb dX12_backNow_59 rfl (lv_at hl 1 rfl) ?_
            refine lv_iload_n hx hb dX12_backNow_60 rfl (lv_at hl 0 rfl) ?_
            refine lv_iload_n hx hb dX12_backNow_61 rfl (lv_at hl 2 rfl) ?_
            refine kVi0 (rest := []) F hl V [0, 1, 2, 3, 4, 5, 6, 7] [] [0, 1, 2, 3, 4, 5, 6, 7] (gX12 g a_this a_this_z a_this_saved a_this_text a_this_line a_this_aside a_this_read a_this_fewest thrown z saves saved length text many line aside isWord entries rdA fewest h) a_this 8 0 rfl rfl (kX12_isWordAt l g a_this a_this_z a_this_saved a_this_text a_this_line a_this_aside a_this_read a_this_fewest thrown z saves saved length text many line aside isWord entries rdA fewest h r_32 v1 _ hw) gX12_backNow_X12_isWordAt rfl 2 rfl hdX12_isWordAt rfl rfl (fun _ => rfl) rfl rfl rfl (by decide) ⟨Nat.le_of_ble_eq_true rfl, Nat.le_of_ble_eq_true rfl⟩ ⟨Nat.le_of_ble_eq_true rfl, Nat.le_of_ble_eq_true rfl⟩ (Nat.le_of_ble_eq_true rfl) rfl dX12_backNow_62 (fun r_62 H locs hw V => ?_)
            refine lv_if_eq (tgt := 84) hx hb dX12_backNow_65 (by decide) (fun c_65 => ?_) (fun c_65 => ?_)
            · have hw := hw.1 c_65
              refine lv_iconst (v := (-1)) hx hb dX12_backNow_84 (by decide) ?_
              exact B85 (wX12_backNow_18 z length text P n) ih v2 r_32 (-1) many line fewest V (lv_sub hl [1, 3, 0] rfl) hw
            · have hw := hw.2 c_65
              refine lv_iload_n hx hb dX12_backNow_68 rfl (lv_at hl 2 rfl) ?_
              refine lv_aload_n hx hb dX12_backNow_69 rfl (lv_at hl 1 rfl) ?_
              refine kget F V 8 1 0 rfl rfl iX12_backNow_X12 fX12_backNow_7 (by decide) rfl rfl dX12_backNow_70 ?_
              refine lv_iload_n hx hb dX12_backNow_73 rfl (lv_at hl 0 rfl) ?_
              refine kSi0n (rest := [.ref a_this_z, .int v1]) F hl V (kX12_entryAt l g r_32 _ hw) gX12_backNow_X12_entryAt rfl 1 rfl hdX12_entryAt ⟨Nat.le_of_ble_eq_true rfl, Nat.le_of_ble_eq_true rfl⟩ ⟨Nat.le_of_ble_eq_true rfl, Nat.le_of_ble_eq_true rfl⟩ (Nat.le_of_ble_eq_true rfl) rfl dX12_backNow_74 (fun r_74 H locs hw V => ?_)
              refine lv_iconst (v := 5) hx hb dX12_backNow_77 (by decide) ?_
              refine lv_iadd hx hb dX12_backNow_78 ?_
              refine kiald F V 1 rfl hw.1 dX12_backNow_79 ?_
              have hw := hw.2
              refine lv_iadd hx hb dX12_backNow_80 ?_
              refine lv_goto (tgt := 85) hx hb dX12_backNow_81 (by decide) ?_
              exact B85 (wX12_backNow_18 z length text P n) ih v2 r_32 (v1 + (z (r_74 + 5).toNatClampNeg)) many line fewest V (lv_sub hl [1, 3, 0] rfl) hw
          · have hw := hw.2 c_38
            refine lv_aload_n hx hb dX12_backNow_41 rfl (lv_at hl 1 rfl) ?_
            refine lv_aload_n hx hb dX12_backNow_42 rfl (lv_at hl 1 rfl) ?_
            refine kget F V 8 7 0 rfl rfl iX12_backNow_X12 fX12_backNow_19 (by decide) rfl rfl dX12_backNow_43 ?_
            refine lv_iload_n hx hb dX12_backNow_46 rfl (lv_at hl 3 rfl) ?_
            refine kiald F V 4 rfl hw.1 dX12_backNow_47 ?_
            have hw := hw.2
            refine lv_iload_n hx hb dX12_backNow_48 rfl (lv_at hl 2 rfl) ?_
            refine kVi0 (rest := []) F hl V [0, 1, 2, 3, 4, 5, 6, 7] [] [0, 1, 2, 3, 4, 5, 6, 7] (gX12 g a_this a_this_z a_this_saved a_this_text a_this_line a_this_aside a_this_read a_this_fewest thrown z saves saved length text many line aside isWord entries rdA fewest h) a_this 8 0 rfl rfl (kX12_readStroke l g a_this a_this_z a_this_saved a_this_text a_this_line a_this_aside a_this_read a_this_fewest thrown z saves saved length text many line aside isWord entries rdA fewest h (line v2.toNatClampNeg) v1 _ hw) gX12_backNow_X12_readStroke rfl 2 rfl hdX12_readStroke rfl rfl (fun _ => rfl) rfl rfl rfl (by decide) ⟨Nat.le_of_ble_eq_true rfl, Nat.le_of_ble_eq_true rfl⟩ ⟨Nat.le_of_ble_eq_true rfl, Nat.le_of_ble_eq_true rfl⟩ (Nat.le_of_ble_eq_true rfl) rfl dX12_backNow_49 (fun r_49 H locs hw V => ?_)
            refine lv_istore_n (lv' := [(1, .int r_49), (3, .int r_32), (0, .ref a_this), (2, .int v2)]) hx hb dX12_backNow_52 rfl hl (by decide) rfl (fun ls hl => ?_)
            refine lv_iinc (v := v2 + 1) (lv' := [(2, .int (v2 + 1)), (1, .int r_49), (3, .int r_32), (0, .ref a_this)]) hx hb dX12_backNow_53 hl (k := 3) rfl rfl (by decide) rfl (fun ls hl => ?_)
            refine lv_goto (tgt := 98) hx hb dX12_backNow_56 (by decide) ?_
            exact B98 (wX12_backNow_18 z length text P n) ih r_49 (v2 + 1) many line fewest V (lv_sub hl [3, 1, 0] rfl) hw
  refine lv_aload_n hx hb dX12_backNow_0 rfl (lv_at hl 0 rfl) ?_
  refine kVi1 (rest := []) F hl V [0, 1, 2, 3, 4, 5, 6, 7] [] [0, 1, 2, 3, 4, 5, 6, 7] (fun fewest_1 => (gX12 g a_this a_this_z a_this_saved a_this_text a_this_line a_this_aside a_this_read a_this_fewest thrown z saves saved length text many line aside isWord entries rdA fewest_1 h)) a_this 8 0 rfl rfl (kX12_fewestNow l g a_this a_this_z a_this_saved a_this_text a_this_line a_this_aside a_this_read a_this_fewest thrown z saves saved length text many line aside isWord entries rdA fewest h _ hw) gX12_backNow_X12_fewestNow rfl 0 rfl hdX12_fewestNow rfl rfl (fun _ => rfl) rfl rfl rfl (by decide) ⟨Nat.le_of_ble_eq_true rfl, Nat.le_of_ble_eq_true rfl⟩ ⟨Nat.le_of_ble_eq_true rfl, Nat.le_of_ble_eq_true rfl⟩ (Nat.le_of_ble_eq_true rfl) rfl dX12_backNow_1 (fun r_1 fewest_1 H locs hw V => ?_)
  refine lv_iconst (v := (-1)) hx hb dX12_backNow_4 (by decide) ?_
  refine lv_icmp_ne (tgt := 10) hx hb dX12_backNow_5 (by decide) (fun c_5 => ?_) (fun c_5 => ?_)
  · have hw := hw.1 c_5
    refine lv_aload_n hx hb dX12_backNow_10 rfl (lv_at hl 0 rfl) ?_
    refine kVv2 (rest := []) F hl V [0, 1, 2, 3, 4, 5, 6, 7] [] [0, 1, 2, 3, 4, 5, 6, 7] (fun many_11 line_11 => (gX12 g a_this a_this_z a_this_saved a_this_text a_this_line a_this_aside a_this_read a_this_fewest thrown z saves saved length text many_11 line_11 aside isWord entries rdA fewest_1 h)) a_this 8 0 rfl rfl (kX12_layLine l g a_this a_this_z a_this_saved a_this_text a_this_line a_this_aside a_this_read a_this_fewest thrown z saves saved length text many line aside isWord entries rdA fewest_1 h _ hw) gX12_backNow_X12_layLine rfl 0 rfl hdX12_layLine rfl rfl (fun _ _ => rfl) rfl rfl rfl (by decide) ⟨Nat.le_of_ble_eq_true rfl, Nat.le_of_ble_eq_true rfl⟩ ⟨Nat.le_of_ble_eq_true rfl, Nat.le_of_ble_eq_true rfl⟩ (Nat.le_of_ble_eq_true rfl) rfl dX12_backNow_11 (fun many_11 line_11 H locs hw V => ?_)
    refine lv_iconst (v := 0) hx hb dX12_backNow_14 (by decide) ?_
    refine lv_istore_n (lv' := [(1, .int 0), (0, .ref a_this)]) hx hb dX12_backNow_15 rfl hl (by decide) rfl (fun ls hl => ?_)
    refine lv_iconst (v := 0) hx hb dX12_backNow_16 (by decide) ?_
    refine lv_istore_n (lv' := [(2, .int 0), (1, .int 0), (0, .ref a_this)]) hx hb dX12_backNow_17 rfl hl (by decide) rfl (fun ls hl => ?_)
    obtain ⟨n_18, hw⟩ := hw
    exact B18  n_18 0 0 many_11 line_11 fewest_1 V (lv_sub hl [2, 1, 0] rfl) hw
  · have hw := hw.2 c_5
    refine lv_iconst (v := (-1)) hx hb dX12_backNow_8 (by decide) ?_
    exact ret _ _ _ _ _ _ _ _ rfl dX12_backNow_9 V hw
theorem hdX12_readsBack : yX12_readsBack.cls = RX12 ∧ yX12_readsBack.cls ≠ "java/lang/invoke/MethodHandle" ∧ yX12_readsBack.cls ≠ "java/lang/invoke/VarHandle" ∧ (parseMethodDescriptor yX12_readsBack.desc).map (fun d => d.parameters.length) = some 0 := by decide +kernel
theorem fX12_readsBack_31 : Cond.fieldLink RX12 31 RX12 "thrown" "I" ∈ wsX12_readsBack := by decide +kernel
theorem iX12_readsBack_X12 : ∀ w ∈ u_ws RX12 TX12 14, w ∈ wsX12_readsBack := by decide +kernel
def wX12_readsBack (z : Nat → Int32) (length : Int32) (text : Nat → Int32) (P : Int32 → Int32 → Int32 → (Nat → Int32) → (Nat → Int32) → Prop) (thrown : Int32) (many : Int32) (line : Nat → Int32) (fewest : Nat → Int32) : Prop := wX12_backNow z length text (fun r_6 many_6 line_6 fewest_6 => P r_6 0 many_6 line_6 fewest_6) many line fewest
set_option maxHeartbeats 4000000 in
set_option maxRecDepth 100000 in
theorem kX12_readsBack (l : Launch) (g : kT) (a_this : Nat) (a_this_z : Nat) (a_this_saved : Nat) (a_this_text : Nat) (a_this_line : Nat) (a_this_aside : Nat) (a_this_read : Nat) (a_this_fewest : Nat) (thrown : Int32) (z : Nat → Int32) (saves : Int32) (saved : Nat → Int32) (length : Int32) (text : Nat → Int32) (many : Int32) (line : Nat → Int32) (aside : Nat → Int32) (isWord : Int32) (entries : Int32) (rdA : Nat → Int32) (fewest : Nat → Int32) (h : Int64) (P : Int32 → Int32 → Int32 → (Nat → Int32) → (Nat → Int32) → Prop) (hw : wX12_readsBack z length text P thrown many line fewest) : Ki4 l g yX12_readsBack wsX12_readsBack 5 114 0 0 [.ref a_this] (gX12 g a_this a_this_z a_this_saved a_this_text a_this_line a_this_aside a_this_read a_this_fewest thrown z saves saved length text many line aside isWord entries rdA fewest h) P (fun thrown many line fewest => (gX12 g a_this a_this_z a_this_saved a_this_text a_this_line a_this_aside a_this_read a_this_fewest thrown z saves saved length text many line aside isWord entries rdA fewest h)) := by
  refine Ki4.mk (cc := cX12_readsBack) (nL := 1) (ty := .int) (by decide +kernel) rfl (Nat.le_of_ble_eq_true rfl) ?_
  intro p e s m below meth c A Q ls F hl V ret
  have hx := F.x
  have hb := F.b
  have hl : lv_has ls 1 [(0, .ref a_this)] := hl
  refine lv_aload_n hx hb dX12_readsBack_0 rfl (lv_at hl 0 rfl) ?_
  refine lv_iconst (v := 0) hx hb dX12_readsBack_1 (by decide) ?_
  refine kput F V 8 0 0 tyX12_ok nmX12 rfl rfl iX12_readsBack_X12 fX12_readsBack_31 (by decide) rfl rfl rfl rfl (Nat.le_of_ble_eq_true rfl) dX12_readsBack_2 (fun H locs V => ?_)
  have V : VW g A s.heap H locs (gX12 g a_this a_this_z a_this_saved a_this_text a_this_line a_this_aside a_this_read a_this_fewest 0 z saves saved length text many line aside isWord entries rdA fewest h) := V
  refine lv_aload_n hx hb dX12_readsBack_5 rfl (lv_at hl 0 rfl) ?_
  refine kVi3 (rest := []) F hl V [0, 1, 2, 3, 4, 5, 6, 7] [] [0, 1, 2, 3, 4, 5, 6, 7] (fun many_6 line_6 fewest_6 => (gX12 g a_this a_this_z a_this_saved a_this_text a_this_line a_this_aside a_this_read a_this_fewest 0 z saves saved length text many_6 line_6 aside isWord entries rdA fewest_6 h)) a_this 8 0 rfl rfl (kX12_backNow l g a_this a_this_z a_this_saved a_this_text a_this_line a_this_aside a_this_read a_this_fewest 0 z saves saved length text many line aside isWord entries rdA fewest h _ hw) gX12_readsBack_X12_backNow rfl 0 rfl hdX12_backNow rfl rfl (fun _ _ _ => rfl) rfl rfl rfl (by decide) ⟨Nat.le_of_ble_eq_true rfl, Nat.le_of_ble_eq_true rfl⟩ ⟨Nat.le_of_ble_eq_true rfl, Nat.le_of_ble_eq_true rfl⟩ (Nat.le_of_ble_eq_true rfl) rfl dX12_readsBack_6 (fun r_6 many_6 line_6 fewest_6 H locs hw V => ?_)
  exact ret _ _ _ _ _ _ _ _ _ rfl dX12_readsBack_9 V hw
theorem hdX12_keysOfOutline : yX12_keysOfOutline.cls = RX12 ∧ yX12_keysOfOutline.cls ≠ "java/lang/invoke/MethodHandle" ∧ yX12_keysOfOutline.cls ≠ "java/lang/invoke/VarHandle" ∧ (parseMethodDescriptor yX12_keysOfOutline.desc).map (fun d => d.parameters.length) = some 1 := by decide +kernel
theorem fX12_keysOfOutline_7 : Cond.fieldLink RX12 7 RX12 "z" "[I" ∈ wsX12_keysOfOutline := by decide +kernel
theorem iX12_keysOfOutline_X12 : ∀ w ∈ u_ws RX12 TX12 14, w ∈ wsX12_keysOfOutline := by decide +kernel
def wX12_keysOfOutline_4 (z : Nat → Int32) (p1 : Int32) (P : Int32 → Prop) : Nat → Int32 → Int32 → Prop
  | 0, _, _ => False
  | n + 1, v2, v3 => wX12_entryAt p1 (fun r_10 => vp_in r_10 1317 ∧ ((z r_10.toNatClampNeg) ≤ v3 → P v2) ∧ (¬ ((z r_10.toNatClampNeg) ≤ v3) → wX12_entryAt p1 (fun r_23 => vp_in ((r_23 + 1) + v3) 1317 ∧ wX12_keysOf (z ((r_23 + 1) + v3).toNatClampNeg) (fun r_31 => ∀ v2_35 : Int32, v2_35 = (v2 + r_31) → (wX12_keysOfOutline_4 z p1 P n) v2_35 (v3 + 1)))))
def wX12_keysOfOutline (z : Nat → Int32) (p1 : Int32) (P : Int32 → Prop) : Prop := ∃ n_4, wX12_keysOfOutline_4 z p1 P n_4 0 0
set_option maxHeartbeats 4000000 in
set_option maxRecDepth 100000 in
theorem kX12_keysOfOutline (l : Launch) (g : kT) (a_this : Nat) (a_this_z : Nat) (a_this_saved : Nat) (a_this_text : Nat) (a_this_line : Nat) (a_this_aside : Nat) (a_this_read : Nat) (a_this_fewest : Nat) (thrown : Int32) (z : Nat → Int32) (saves : Int32) (saved : Nat → Int32) (length : Int32) (text : Nat → Int32) (many : Int32) (line : Nat → Int32) (aside : Nat → Int32) (isWord : Int32) (entries : Int32) (rdA : Nat → Int32) (fewest : Nat → Int32) (h : Int64) (p1 : Int32) (P : Int32 → Prop) (hw : wX12_keysOfOutline z p1 P) : Ki0 l g yX12_keysOfOutline wsX12_keysOfOutline 1 22 0 0 [.ref a_this, .int p1] (gX12 g a_this a_this_z a_this_saved a_this_text a_this_line a_this_aside a_this_read a_this_fewest thrown z saves saved length text many line aside isWord entries rdA fewest h) P (gX12 g a_this a_this_z a_this_saved a_this_text a_this_line a_this_aside a_this_read a_this_fewest thrown z saves saved length text many line aside isWord entries rdA fewest h) := by
  refine Ki0.mk (cc := cX12_keysOfOutline) (nL := 4) (ty := .int) (by decide +kernel) rfl (Nat.le_of_ble_eq_true rfl) ?_
  intro p e s m below meth c A Q ls F hl V ret
  have hx := F.x
  have hb := F.b
  have hl : lv_has ls 4 [(0, .ref a_this), (1, .int p1)] := hl
  have B4 :  ∀ (n : Nat), ∀ {H : Heap} {locs : List Loc} {ls : Array Slot} (v2 : Int32) (v3 : Int32) (V : VW g A s.heap H locs (gX12 g a_this a_this_z a_this_saved a_this_text a_this_line a_this_aside a_this_read a_this_fewest thrown z saves saved length text many line aside isWord entries rdA fewest h)) (hl : lv_has ls 4 [(0, .ref a_this), (1, .int p1), (2, .int v2), (3, .int v3)]) (hw : wX12_keysOfOutline_4 z p1 P n v2 v3), W p l e (kR 1 22 0 0) s m ([.ref a_this, .int p1] : List Value).toArray below meth c H locs 0 0 Q (F0 m 4 ls []) := by
    intro n
    induction n with
    | zero => intro _ _ _ _ _ V hl hw; exact hw.elim
    | succ n ih =>
      intro H locs ls v2 v3 V hl hw
      refine lv_iload_n hx hb dX12_keysOfOutline_4 rfl (lv_at hl 3 rfl) ?_
      refine lv_aload_n hx hb dX12_keysOfOutline_5 rfl (lv_at hl 0 rfl) ?_
      refine kget F V 8 1 0 rfl rfl iX12_keysOfOutline_X12 fX12_keysOfOutline_7 (by decide) rfl rfl dX12_keysOfOutline_6 ?_
      refine lv_iload_n hx hb dX12_keysOfOutline_9 rfl (lv_at hl 1 rfl) ?_
      refine kSi0n (rest := [.ref a_this_z, .int v3]) F hl V (kX12_entryAt l g p1 _ hw) gX12_keysOfOutline_X12_entryAt rfl 1 rfl hdX12_entryAt ⟨Nat.le_of_ble_eq_true rfl, Nat.le_of_ble_eq_true rfl⟩ ⟨Nat.le_of_ble_eq_true rfl, Nat.le_of_ble_eq_true rfl⟩ (Nat.le_of_ble_eq_true rfl) rfl dX12_keysOfOutline_10 (fun r_10 H locs hw V => ?_)
      refine kiald F V 1 rfl hw.1 dX12_keysOfOutline_13 ?_
      have hw := hw.2
      refine lv_icmp_ge (tgt := 42) hx hb dX12_keysOfOutline_14 (by decide) (fun c_14 => ?_) (fun c_14 => ?_)
      · have hw := hw.1 c_14
        refine lv_iload_n hx hb dX12_keysOfOutline_42 rfl (lv_at hl 2 rfl) ?_
        exact ret _ _ _ _ _ rfl dX12_keysOfOutline_43 V hw
      · have hw := hw.2 c_14
        refine lv_iload_n hx hb dX12_keysOfOutline_17 rfl (lv_at hl 2 rfl) ?_
        refine lv_aload_n hx hb dX12_keysOfOutline_18 rfl (lv_at hl 0 rfl) ?_
        refine kget F V 8 1 0 rfl rfl iX12_keysOfOutline_X12 fX12_keysOfOutline_7 (by decide) rfl rfl dX12_keysOfOutline_19 ?_
        refine lv_iload_n hx hb dX12_keysOfOutline_22 rfl (lv_at hl 1 rfl) ?_
        refine kSi0n (rest := [.ref a_this_z, .int v2]) F hl V (kX12_entryAt l g p1 _ hw) gX12_keysOfOutline_X12_entryAt rfl 1 rfl hdX12_entryAt ⟨Nat.le_of_ble_eq_true rfl, Nat.le_of_ble_eq_true rfl⟩ ⟨Nat.le_of_ble_eq_true rfl, Nat.le_of_ble_eq_true rfl⟩ (Nat.le_of_ble_eq_true rfl) rfl dX12_keysOfOutline_23 (fun r_23 H locs hw V => ?_)
        refine lv_iconst (v := 1) hx hb dX12_keysOfOutline_26 (by decide) ?_
        refine lv_iadd hx hb dX12_keysOfOutline_27 ?_
        refine lv_iload_n hx hb dX12_keysOfOutline_28 rfl (lv_at hl 3 rfl) ?_
        refine lv_iadd hx hb dX12_keysOfOutline_29 ?_
        refine kiald F V 1 rfl hw.1 dX12_keysOfOutline_30 ?_
        have hw := hw.2
        refine kSi0n (rest := [.int v2]) F hl V (kX12_keysOf l g (z ((r_23 + 1) + v3).toNatClampNeg) _ hw) gX12_keysOfOutline_X12_keysOf rfl 1 rfl hdX12_keysOf ⟨Nat.le_of_ble_eq_true rfl, Nat.le_of_ble_eq_true rfl⟩ ⟨Nat.le_of_ble_eq_true rfl, Nat.le_of_ble_eq_true rfl⟩ (Nat.le_of_ble_eq_true rfl) rfl dX12_keysOfOutline_31 (fun r_31 H locs hw V => ?_)
        refine lv_iadd hx hb dX12_keysOfOutline_34 ?_
        refine lv_topi (fun v2_35 ev2_35 => ?_)
        have hw := hw v2_35 ev2_35
        refine lv_istore_n (lv' := [(2, .int v2_35), (0, .ref a_this), (1, .int p1), (3, .int v3)]) hx hb dX12_keysOfOutline_35 rfl hl (by decide) rfl (fun ls hl => ?_)
        refine lv_iinc (v := v3 + 1) (lv' := [(3, .int (v3 + 1)), (2, .int v2_35), (0, .ref a_this), (1, .int p1)]) hx hb dX12_keysOfOutline_36 hl (k := 3) rfl rfl (by decide) rfl (fun ls hl => ?_)
        refine lv_goto (tgt := 4) hx hb dX12_keysOfOutline_39 (by decide) ?_
        exact ih v2_35 (v3 + 1) V (lv_sub hl [2, 3, 1, 0] rfl) hw
  refine lv_iconst (v := 0) hx hb dX12_keysOfOutline_0 (by decide) ?_
  refine lv_istore_n (lv' := [(2, .int 0), (0, .ref a_this), (1, .int p1)]) hx hb dX12_keysOfOutline_1 rfl hl (by decide) rfl (fun ls hl => ?_)
  refine lv_iconst (v := 0) hx hb dX12_keysOfOutline_2 (by decide) ?_
  refine lv_istore_n (lv' := [(3, .int 0), (2, .int 0), (0, .ref a_this), (1, .int p1)]) hx hb dX12_keysOfOutline_3 rfl hl (by decide) rfl (fun ls hl => ?_)
  obtain ⟨n_4, hw⟩ := hw
  exact B4  n_4 0 0 V (lv_sub hl [2, 3, 1, 0] rfl) hw
theorem hdX12_shortestNow : yX12_shortestNow.cls = RX12 ∧ yX12_shortestNow.cls ≠ "java/lang/invoke/MethodHandle" ∧ yX12_shortestNow.cls ≠ "java/lang/invoke/VarHandle" ∧ (parseMethodDescriptor yX12_shortestNow.desc).map (fun d => d.parameters.length) = some 1 := by decide +kernel
theorem fX12_shortestNow_7 : Cond.fieldLink RX12 7 RX12 "z" "[I" ∈ wsX12_shortestNow := by decide +kernel
theorem iX12_shortestNow_X12 : ∀ w ∈ u_ws RX12 TX12 14, w ∈ wsX12_shortestNow := by decide +kernel
def wX12_shortestNow_99 (z : Nat → Int32) (p1 : Int32) (K4 : Int32 → Int32 → Prop) (P : Int32 → Prop) (v2 : Int32) (v3 : Int32) : Prop := K4 v2 (v3 + 1)
def wX12_shortestNow_98 (z : Nat → Int32) (p1 : Int32) (K4 : Int32 → Int32 → Prop) (P : Int32 → Prop) (v3 : Int32) (s0 : Int32) : Prop := wX12_shortestNow_99 z p1 K4 P s0 v3
def wX12_shortestNow_86 (z : Nat → Int32) (p1 : Int32) (K4 : Int32 → Int32 → Prop) (P : Int32 → Prop) (v2 : Int32) (v3 : Int32) (s0 : Int32) : Prop := (s0 = 0 → wX12_shortestNow_98 z p1 K4 P v3 v2) ∧ (¬ (s0 = 0) → wX12_shortestNow_98 z p1 K4 P v3 v3)
def wX12_shortestNow_85 (z : Nat → Int32) (p1 : Int32) (K4 : Int32 → Int32 → Prop) (P : Int32 → Prop) (v2 : Int32) (v3 : Int32) : Prop := wX12_shortestNow_86 z p1 K4 P v2 v3 0
def wX12_shortestNow_81 (z : Nat → Int32) (p1 : Int32) (K4 : Int32 → Int32 → Prop) (P : Int32 → Prop) (v2 : Int32) (v3 : Int32) : Prop := wX12_shortestNow_86 z p1 K4 P v2 v3 1
def wX12_shortestNow_51 (z : Nat → Int32) (p1 : Int32) (K4 : Int32 → Int32 → Prop) (P : Int32 → Prop) (v2 : Int32) (v3 : Int32) (s0 : Int32) : Prop := (v2 = (-1) → wX12_shortestNow_81 z p1 K4 P v2 v3) ∧ (¬ (v2 = (-1)) → (s0 < 0 → wX12_shortestNow_81 z p1 K4 P v2 v3) ∧ (¬ (s0 < 0) → (¬ s0 = 0 → wX12_shortestNow_85 z p1 K4 P v2 v3) ∧ (s0 = 0 → wX12_keysOfOutline z v3 (fun r_70 => wX12_keysOfOutline z v2 (fun r_75 => (r_75 ≤ r_70 → wX12_shortestNow_85 z p1 K4 P v2 v3) ∧ (¬ (r_75 ≤ r_70) → wX12_shortestNow_81 z p1 K4 P v2 v3))))))
def wX12_shortestNow_4 (z : Nat → Int32) (p1 : Int32) (P : Int32 → Prop) : Nat → Int32 → Int32 → Prop
  | 0, _, _ => False
  | n + 1, v2, v3 => vp_in 0 1317 ∧ ((z (0 : Int32).toNatClampNeg) ≤ v3 → P v2) ∧ (¬ ((z (0 : Int32).toNatClampNeg) ≤ v3) → wX12_isSameWord z v3 p1 (fun r_17 => (r_17 = 0 → wX12_shortestNow_99 z p1 (wX12_shortestNow_4 z p1 P n) P v2 v3) ∧ (¬ (r_17 = 0) → (¬ v2 = (-1) → wX12_entryAt v3 (fun r_37 => vp_in r_37 1317 ∧ wX12_entryAt v2 (fun r_46 => vp_in r_46 1317 ∧ wX12_shortestNow_51 z p1 (wX12_shortestNow_4 z p1 P n) P v2 v3 ((z r_37.toNatClampNeg) - (z r_46.toNatClampNeg))))) ∧ (v2 = (-1) → wX12_shortestNow_51 z p1 (wX12_shortestNow_4 z p1 P n) P v2 v3 0))))
def wX12_shortestNow (z : Nat → Int32) (p1 : Int32) (P : Int32 → Prop) : Prop := ∃ n_4, wX12_shortestNow_4 z p1 P n_4 (-1) 0
set_option maxHeartbeats 4000000 in
set_option maxRecDepth 100000 in
theorem kX12_shortestNow (l : Launch) (g : kT) (a_this : Nat) (a_this_z : Nat) (a_this_saved : Nat) (a_this_text : Nat) (a_this_line : Nat) (a_this_aside : Nat) (a_this_read : Nat) (a_this_fewest : Nat) (thrown : Int32) (z : Nat → Int32) (saves : Int32) (saved : Nat → Int32) (length : Int32) (text : Nat → Int32) (many : Int32) (line : Nat → Int32) (aside : Nat → Int32) (isWord : Int32) (entries : Int32) (rdA : Nat → Int32) (fewest : Nat → Int32) (h : Int64) (p1 : Int32) (P : Int32 → Prop) (hw : wX12_shortestNow z p1 P) : Ki0 l g yX12_shortestNow wsX12_shortestNow 2 45 0 0 [.ref a_this, .int p1] (gX12 g a_this a_this_z a_this_saved a_this_text a_this_line a_this_aside a_this_read a_this_fewest thrown z saves saved length text many line aside isWord entries rdA fewest h) P (gX12 g a_this a_this_z a_this_saved a_this_text a_this_line a_this_aside a_this_read a_this_fewest thrown z saves saved length text many line aside isWord entries rdA fewest h) := by
  refine Ki0.mk (cc := cX12_shortestNow) (nL := 6) (ty := .int) (by decide +kernel) rfl (Nat.le_of_ble_eq_true rfl) ?_
  intro p e s m below meth c A Q ls F hl V ret
  have hx := F.x
  have hb := F.b
  have hl : lv_has ls 6 [(0, .ref a_this), (1, .int p1)] := hl
  have B99 : ∀ (K4 : Int32 → Int32 → Prop) (k4 : ∀ {H : Heap} {locs : List Loc} {ls : Array Slot} (v2 : Int32) (v3 : Int32), VW g A s.heap H locs (gX12 g a_this a_this_z a_this_saved a_this_text a_this_line a_this_aside a_this_read a_this_fewest thrown z saves saved length text many line aside isWord entries rdA fewest h) → lv_has ls 6 [(0, .ref a_this), (1, .int p1), (2, .int v2), (3, .int v3)] → K4 v2 v3 → W p l e (kR 2 45 0 0) s m ([.ref a_this, .int p1] : List Value).toArray below meth c H locs 0 0 Q (F0 m 4 ls [])), ∀ {H : Heap} {locs : List Loc} {ls : Array Slot} (v2 : Int32) (v3 : Int32) (V : VW g A s.heap H locs (gX12 g a_this a_this_z a_this_saved a_this_text a_this_line a_this_aside a_this_read a_this_fewest thrown z saves saved length text many line aside isWord entries rdA fewest h)) (hl : lv_has ls 6 [(0, .ref a_this), (1, .int p1), (2, .int v2), (3, .int v3)]) (hw : wX12_shortestNow_99 z p1 K4 P v2 v3), W p l e (kR 2 45 0 0) s m ([.ref a_this, .int p1] : List Value).toArray below meth c H locs 0 0 Q (F0 m 99 ls []) := by
    intro K4 k4 H locs ls v2 v3 V hl hw
    refine lv_iinc (v := v3 + 1) (lv' := [(3, .int (v3 + 1)), (0, .ref a_this), (1, .int p1), (2, .int v2)]) hx hb dX12_shortestNow_99 hl (k := 3) rfl rfl (by decide) rfl (fun ls hl => ?_)
    refine lv_goto (tgt := 4) hx hb dX12_shortestNow_102 (by decide) ?_
    exact k4 v2 (v3 + 1) V (lv_sub hl [1, 2, 3, 0] rfl) hw
  have B98 : ∀ (K4 : Int32 → Int32 → Prop) (k4 : ∀ {H : Heap} {locs : List Loc} {ls : Array Slot} (v2 : Int32) (v3 : Int32), VW g A s.heap H locs (gX12 g a_this a_this_z a_this_saved a_this_text a_this_line a_this_aside a_this_read a_this_fewest thrown z saves saved length text many line aside isWord entries rdA fewest h) → lv_has ls 6 [(0, .ref a_this), (1, .int p1), (2, .int v2), (3, .int v3)] → K4 v2 v3 → W p l e (kR 2 45 0 0) s m ([.ref a_this, .int p1] : List Value).toArray below meth c H locs 0 0 Q (F0 m 4 ls [])), ∀ {H : Heap} {locs : List Loc} {ls : Array Slot} (v3 : Int32) (s0 : Int32) (V : VW g A s.heap H locs (gX12 g a_this a_this_z a_this_saved a_this_text a_this_line a_this_aside a_this_read a_this_fewest thrown z saves saved length text many line aside isWord entries rdA fewest h)) (hl : lv_has ls 6 [(0, .ref a_this), (1, .int p1), (3, .int v3)]) (hw : wX12_shortestNow_98 z p1 K4 P v3 s0), W p l e (kR 2 45 0 0) s m ([.ref a_this, .int p1] : List Value).toArray below meth c H locs 0 0 Q (F0 m 98 ls [.int s0]) := by
    intro K4 k4 H locs ls v3 s0 V hl hw
    refine lv_istore_n (lv' := [(2, .int s0), (0, .ref a_this), (1, .int p1), (3, .int v3)]) hx hb dX12_shortestNow_98 rfl hl (by decide) rfl (fun ls hl => ?_)
    exact B99 K4 k4 s0 v3 V (lv_sub hl [1, 2, 0, 3] rfl) hw
  have B86 : ∀ (K4 : Int32 → Int32 → Prop) (k4 : ∀ {H : Heap} {locs : List Loc} {ls : Array Slot} (v2 : Int32) (v3 : Int32), VW g A s.heap H locs (gX12 g a_this a_this_z a_this_saved a_this_text a_this_line a_this_aside a_this_read a_this_fewest thrown z saves saved length text many line aside isWord entries rdA fewest h) → lv_has ls 6 [(0, .ref a_this), (1, .int p1), (2, .int v2), (3, .int v3)] → K4 v2 v3 → W p l e (kR 2 45 0 0) s m ([.ref a_this, .int p1] : List Value).toArray below meth c H locs 0 0 Q (F0 m 4 ls [])), ∀ {H : Heap} {locs : List Loc} {ls : Array Slot} (v2 : Int32) (v3 : Int32) (s0 : Int32) (V : VW g A s.heap H locs (gX12 g a_this a_this_z a_this_saved a_this_text a_this_line a_this_aside a_this_read a_this_fewest thrown z saves saved length text many line aside isWord entries rdA fewest h)) (hl : lv_has ls 6 [(0, .ref a_this), (1, .int p1), (2, .int v2), (3, .int v3)]) (hw : wX12_shortestNow_86 z p1 K4 P v2 v3 s0), W p l e (kR 2 45 0 0) s m ([.ref a_this, .int p1] : List Value).toArray below meth c H locs 0 0 Q (F0 m 86 ls [.int s0]) := by
    intro K4 k4 H locs ls v2 v3 s0 V hl hw
    refine lv_istore (lv' := [(5, .int s0), (0, .ref a_this), (1, .int p1), (2, .int v2), (3, .int v3)]) hx hb dX12_shortestNow_86 hl (by decide) rfl (fun ls hl => ?_)
    refine lv_iload hx hb dX12_shortestNow_88 (lv_at hl 0 rfl) ?_
    refine lv_if_eq (tgt := 97) hx hb dX12_shortestNow_90 (by decide) (fun c_90 => ?_) (fun c_90 => ?_)
    · have hw := hw.1 c_90
      refine lv_iload_n hx hb dX12_shortestNow_97 rfl (lv_at hl 3 rfl) ?_
      exact B98 K4 k4 v3 v2 V (lv_sub hl [1, 2, 4] rfl) hw
    · have hw := hw.2 c_90
      refine lv_iload_n hx hb dX12_shortestNow_93 rfl (lv_at hl 4 rfl) ?_
      refine lv_goto (tgt := 98) hx hb dX12_shortestNow_94 (by decide) ?_
      exact B98 K4 k4 v3 v3 V (lv_sub hl [1, 2, 4] rfl) hw
  have B85 : ∀ (K4 : Int32 → Int32 → Prop) (k4 : ∀ {H : Heap} {locs : List Loc} {ls : Array Slot} (v2 : Int32) (v3 : Int32), VW g A s.heap H locs (gX12 g a_this a_this_z a_this_saved a_this_text a_this_line a_this_aside a_this_read a_this_fewest thrown z saves saved length text many line aside isWord entries rdA fewest h) → lv_has ls 6 [(0, .ref a_this), (1, .int p1), (2, .int v2), (3, .int v3)] → K4 v2 v3 → W p l e (kR 2 45 0 0) s m ([.ref a_this, .int p1] : List Value).toArray below meth c H locs 0 0 Q (F0 m 4 ls [])), ∀ {H : Heap} {locs : List Loc} {ls : Array Slot} (v2 : Int32) (v3 : Int32) (V : VW g A s.heap H locs (gX12 g a_this a_this_z a_this_saved a_this_text a_this_line a_this_aside a_this_read a_this_fewest thrown z saves saved length text many line aside isWord entries rdA fewest h)) (hl : lv_has ls 6 [(0, .ref a_this), (1, .int p1), (2, .int v2), (3, .int v3)]) (hw : wX12_shortestNow_85 z p1 K4 P v2 v3), W p l e (kR 2 45 0 0) s m ([.ref a_this, .int p1] : List Value).toArray below meth c H locs 0 0 Q (F0 m 85 ls []) := by
    intro K4 k4 H locs ls v2 v3 V hl hw
    refine lv_iconst (v := 0) hx hb dX12_shortestNow_85 (by decide) ?_
    exact B86 K4 k4 v2 v3 0 V hl hw
  have B81 : ∀ (K4 : Int32 → Int32 → Prop) (k4 : ∀ {H : Heap} {locs : List Loc} {ls : Array Slot} (v2 : Int32) (v3 : Int32), VW g A s.heap H locs (gX12 g a_this a_this_z a_this_saved a_this_text a_this_line a_this_aside a_this_read a_this_fewest thrown z saves saved length text many line aside isWord entries rdA fewest h) → lv_has ls 6 [(0, .ref a_this), (1, .int p1), (2, .int v2), (3, .int v3)] → K4 v2 v3 → W p l e (kR 2 45 0 0) s m ([.ref a_this, .int p1] : List Value).toArray below meth c H locs 0 0 Q (F0 m 4 ls [])), ∀ {H : Heap} {locs : List Loc} {ls : Array Slot} (v2 : Int32) (v3 : Int32) (V : VW g A s.heap H locs (gX12 g a_this a_this_z a_this_saved a_this_text a_this_line a_this_aside a_this_read a_this_fewest thrown z saves saved length text many line aside isWord entries rdA fewest h)) (hl : lv_has ls 6 [(0, .ref a_this), (1, .int p1), (2, .int v2), (3, .int v3)]) (hw : wX12_shortestNow_81 z p1 K4 P v2 v3), W p l e (kR 2 45 0 0) s m ([.ref a_this, .int p1] : List Value).toArray below meth c H locs 0 0 Q (F0 m 81 ls []) := by
    intro K4 k4 H locs ls v2 v3 V hl hw
    refine lv_iconst (v := 1) hx hb dX12_shortestNow_81 (by decide) ?_
    refine lv_goto (tgt := 86) hx hb dX12_shortestNow_82 (by decide) ?_
    exact B86 K4 k4 v2 v3 1 V hl hw
  have B51 : ∀ (K4 : Int32 → Int32 → Prop) (k4 : ∀ {H : Heap} {locs : List Loc} {ls : Array Slot} (v2 : Int32) (v3 : Int32), VW g A s.heap H locs (gX12 g a_this a_this_z a_this_saved a_this_text a_this_line a_this_aside a_this_read a_this_fewest thrown z saves saved length text many line aside isWord entries rdA fewest h) → lv_has ls 6 [(0, .ref a_this), (1, .int p1), (2, .int v2), (3, .int v3)] → K4 v2 v3 → W p l e (kR 2 45 0 0) s m ([.ref a_this, .int p1] : List Value).toArray below meth c H locs 0 0 Q (F0 m 4 ls [])), ∀ {H : Heap} {locs : List Loc} {ls : Array Slot} (v2 : Int32) (v3 : Int32) (s0 : Int32) (V : VW g A s.heap H locs (gX12 g a_this a_this_z a_this_saved a_this_text a_this_line a_this_aside a_this_read a_this_fewest thrown z saves saved length text many line aside isWord entries rdA fewest h)) (hl : lv_has ls 6 [(0, .ref a_this), (1, .int p1), (2, .int v2), (3, .int v3)]) (hw : wX12_shortestNow_51 z p1 K4 P v2 v3 s0), W p l e (kR 2 45 0 0) s m ([.ref a_this, .int p1] : List Value).toArray below meth c H locs 0 0 Q (F0 m 51 ls [.int s0]) := by
    intro K4 k4 H locs ls v2 v3 s0 V hl hw
    refine lv_istore (lv' := [(4, .int s0), (0, .ref a_this), (1, .int p1), (2, .int v2), (3, .int v3)]) hx hb dX12_shortestNow_51 hl (by decide) rfl (fun ls hl => ?_)
    refine lv_iload_n hx hb dX12_shortestNow_53 rfl (lv_at hl 3 rfl) ?_
    refine lv_iconst (v := (-1)) hx hb dX12_shortestNow_54 (by decide) ?_
    refine lv_icmp_eq (tgt := 81) hx hb dX12_shortestNow_55 (by decide) (fun c_55 => ?_) (fun c_55 => ?_)
    · have hw := hw.1 c_55
      exact B81 K4 k4 v2 v3 V (lv_sub hl [1, 2, 3, 4] rfl) hw
    · have hw := hw.2 c_55
      refine lv_iload hx hb dX12_shortestNow_58 (lv_at hl 0 rfl) ?_
      refine lv_if_lt (tgt := 81) hx hb dX12_shortestNow_60 (by decide) (fun c_60 => ?_) (fun c_60 => ?_)
      · have hw := hw.1 c_60
        exact B81 K4 k4 v2 v3 V (lv_sub hl [1, 2, 3, 4] rfl) hw
      · have hw := hw.2 c_60
        refine lv_iload hx hb dX12_shortestNow_63 (lv_at hl 0 rfl) ?_
        refine lv_if_ne (tgt := 85) hx hb dX12_shortestNow_65 (by decide) (fun c_65 => ?_) (fun c_65 => ?_)
        · have hw := hw.1 c_65
          exact B85 K4 k4 v2 v3 V (lv_sub hl [1, 2, 3, 4] rfl) hw
        · have hw := hw.2 c_65
          refine lv_aload_n hx hb dX12_shortestNow_68 rfl (lv_at hl 1 rfl) ?_
          refine lv_iload_n hx hb dX12_shortestNow_69 rfl (lv_at hl 4 rfl) ?_
          refine kVi0 (rest := []) F hl V [0, 1, 2, 3, 4, 5, 6, 7] [] [0, 1, 2, 3, 4, 5, 6, 7] (gX12 g a_this a_this_z a_this_saved a_this_text a_this_line a_this_aside a_this_read a_this_fewest thrown z saves saved length text many line aside isWord entries rdA fewest h) a_this 8 0 rfl rfl (kX12_keysOfOutline l g a_this a_this_z a_this_saved a_this_text a_this_line a_this_aside a_this_read a_this_fewest thrown z saves saved length text many line aside isWord entries rdA fewest h v3 _ hw) gX12_shortestNow_X12_keysOfOutline rfl 1 rfl hdX12_keysOfOutline rfl rfl (fun _ => rfl) rfl rfl rfl (by decide) ⟨Nat.le_of_ble_eq_true rfl, Nat.le_of_ble_eq_true rfl⟩ ⟨Nat.le_of_ble_eq_true rfl, Nat.le_of_ble_eq_true rfl⟩ (Nat.le_of_ble_eq_true rfl) rfl dX12_shortestNow_70 (fun r_70 H locs hw V => ?_)
          refine lv_aload_n hx hb dX12_shortestNow_73 rfl (lv_at hl 1 rfl) ?_
          refine lv_iload_n hx hb dX12_shortestNow_74 rfl (lv_at hl 3 rfl) ?_
          refine kVi0 (rest := [.int r_70]) F hl V [0, 1, 2, 3, 4, 5, 6, 7] [] [0, 1, 2, 3, 4, 5, 6, 7] (gX12 g a_this a_this_z a_this_saved a_this_text a_this_line a_this_aside a_this_read a_this_fewest thrown z saves saved length text many line aside isWord entries rdA fewest h) a_this 8 0 rfl rfl (kX12_keysOfOutline l g a_this a_this_z a_this_saved a_this_text a_this_line a_this_aside a_this_read a_this_fewest thrown z saves saved length text many line aside isWord entries rdA fewest h v2 _ hw) gX12_shortestNow_X12_keysOfOutline rfl 1 rfl hdX12_keysOfOutline rfl rfl (fun _ => rfl) rfl rfl rfl (by decide) ⟨Nat.le_of_ble_eq_true rfl, Nat.le_of_ble_eq_true rfl⟩ ⟨Nat.le_of_ble_eq_true rfl, Nat.le_of_ble_eq_true rfl⟩ (Nat.le_of_ble_eq_true rfl) rfl dX12_shortestNow_75 (fun r_75 H locs hw V => ?_)
          refine lv_icmp_ge (tgt := 85) hx hb dX12_shortestNow_78 (by decide) (fun c_78 => ?_) (fun c_78 => ?_)
          · have hw := hw.1 c_78
            exact B85 K4 k4 v2 v3 V (lv_sub hl [1, 2, 3, 4] rfl) hw
          · have hw := hw.2 c_78
            exact B81 K4 k4 v2 v3 V (lv_sub hl [1, 2, 3, 4] rfl) hw
  have B4 :  ∀ (n : Nat), ∀ {H : Heap} {locs : List Loc} {ls : Array Slot} (v2 : Int32) (v3 : Int32) (V : VW g A s.heap H locs (gX12 g a_this a_this_z a_this_saved a_this_text a_this_line a_this_aside a_this_read a_this_fewest thrown z saves saved length text many line aside isWord entries rdA fewest h)) (hl : lv_has ls 6 [(0, .ref a_this), (1, .int p1), (2, .int v2), (3, .int v3)]) (hw : wX12_shortestNow_4 z p1 P n v2 v3), W p l e (kR 2 45 0 0) s m ([.ref a_this, .int p1] : List Value).toArray below meth c H locs 0 0 Q (F0 m 4 ls []) := by
    intro n
    induction n with
    | zero => intro _ _ _ _ _ V hl hw; exact hw.elim
    | succ n ih =>
      intro H locs ls v2 v3 V hl hw
      refine lv_iload_n hx hb dX12_shortestNow_4 rfl (lv_at hl 3 rfl) ?_
      refine lv_aload_n hx hb dX12_shortestNow_5 rfl (lv_at hl 0 rfl) ?_
      refine kget F V 8 1 0 rfl rfl iX12_shortestNow_X12 fX12_shortestNow_7 (by decide) rfl rfl dX12_shortestNow_6 ?_
      refine lv_iconst (v := 0) hx hb dX12_shortestNow_9 (by decide) ?_
      refine kiald F V 1 rfl hw.1 dX12_shortestNow_10 ?_
      have hw := hw.2
      refine lv_icmp_ge (tgt := 105) hx hb dX12_shortestNow_11 (by decide) (fun c_11 => ?_) (fun c_11 => ?_)
      · have hw := hw.1 c_11
        refine lv_iload_n hx hb dX12_shortestNow_105 rfl (lv_at hl 2 rfl) ?_
        exact ret _ _ _ _ _ rfl dX12_shortestNow_106 V hw
      · have hw := hw.2 c_11
        refine lv_aload_n hx hb dX12_shortestNow_14 rfl (lv_at hl 0 rfl) ?_
        refine lv_iload_n hx hb dX12_shortestNow_15 rfl (lv_at hl 3 rfl) ?_
        refine lv_iload_n hx hb dX12_shortestNow_16 rfl (lv_at hl 1 rfl) ?_
        refine kVi0 (rest := []) F hl V [0, 1, 2, 3, 4, 5, 6, 7] [] [0, 1, 2, 3, 4, 5, 6, 7] (gX12 g a_this a_this_z a_this_saved a_this_text a_this_line a_this_aside a_this_read a_this_fewest thrown z saves saved length text many line aside isWord entries rdA fewest h) a_this 8 0 rfl rfl (kX12_isSameWord l g a_this a_this_z a_this_saved a_this_text a_this_line a_this_aside a_this_read a_this_fewest thrown z saves saved length text many line aside isWord entries rdA fewest h v3 p1 _ hw) gX12_shortestNow_X12_isSameWord rfl 2 rfl hdX12_isSameWord rfl rfl (fun _ => rfl) rfl rfl rfl (by decide) ⟨Nat.le_of_ble_eq_true rfl, Nat.le_of_ble_eq_true rfl⟩ ⟨Nat.le_of_ble_eq_true rfl, Nat.le_of_ble_eq_true rfl⟩ (Nat.le_of_ble_eq_true rfl) rfl dX12_shortestNow_17 (fun r_17 H locs hw V => ?_)
        refine lv_if_eq (tgt := 99) hx hb dX12_shortestNow_20 (by decide) (fun c_20 => ?_) (fun c_20 => ?_)
        · have hw := hw.1 c_20
          exact B99 (wX12_shortestNow_4 z p1 P n) ih v2 v3 V hl hw
        · have hw := hw.2 c_20
          refine lv_iload_n hx hb dX12_shortestNow_23 rfl (lv_at hl 2 rfl) ?_
          refine lv_iconst (v := (-1)) hx hb dX12_shortestNow_24 (by decide) ?_
          refine lv_icmp_ne (tgt := 32) hx hb dX12_shortestNow_25 (by decide) (fun c_25 => ?_) (fun c_25 => ?_)
          · have hw := hw.1 c_25
            refine lv_aload_n hx hb dX12_shortestNow_32 rfl (lv_at hl 0 rfl) ?_
            refine kget F V 8 1 0 rfl rfl iX12_shortestNow_X12 fX12_shortestNow_7 (by decide) rfl rfl dX12_shortestNow_33 ?_
            refine lv_iload_n hx hb dX12_shortestNow_36 rfl (lv_at hl 3 rfl) ?_
            refine kSi0n (rest := [.ref a_this_z]) F hl V (kX12_entryAt l g v3 _ hw) gX12_shortestNow_X12_entryAt rfl 1 rfl hdX12_entryAt ⟨Nat.le_of_ble_eq_true rfl, Nat.le_of_ble_eq_true rfl⟩ ⟨Nat.le_of_ble_eq_true rfl, Nat.le_of_ble_eq_true rfl⟩ (Nat.le_of_ble_eq_true rfl) rfl dX12_shortestNow_37 (fun r_37 H locs hw V => ?_)
            refine kiald F V 1 rfl hw.1 dX12_shortestNow_40 ?_
            have hw := hw.2
            refine lv_aload_n hx hb dX12_shortestNow_41 rfl (lv_at hl 0 rfl) ?_
            refine kget F V 8 1 0 rfl rfl iX12_shortestNow_X12 fX12_shortestNow_7 (by decide) rfl rfl dX12_shortestNow_42 ?_
            refine lv_iload_n hx hb dX12_shortestNow_45 rfl (lv_at hl 2 rfl) ?_
            refine kSi0n (rest := [.ref a_this_z, .int (z r_37.toNatClampNeg)]) F hl V (kX12_entryAt l g v2 _ hw) gX12_shortestNow_X12_entryAt rfl 1 rfl hdX12_entryAt ⟨Nat.le_of_ble_eq_true rfl, Nat.le_of_ble_eq_true rfl⟩ ⟨Nat.le_of_ble_eq_true rfl, Nat.le_of_ble_eq_true rfl⟩ (Nat.le_of_ble_eq_true rfl) rfl dX12_shortestNow_46 (fun r_46 H locs hw V => ?_)
            refine kiald F V 1 rfl hw.1 dX12_shortestNow_49 ?_
            have hw := hw.2
            refine lv_isub hx hb dX12_shortestNow_50 ?_
            exact B51 (wX12_shortestNow_4 z p1 P n) ih v2 v3 ((z r_37.toNatClampNeg) - (z r_46.toNatClampNeg)) V hl hw
          · have hw := hw.2 c_25
            refine lv_iconst (v := 0) hx hb dX12_shortestNow_28 (by decide) ?_
            refine lv_goto (tgt := 51) hx hb dX12_shortestNow_29 (by decide) ?_
            exact B51 (wX12_shortestNow_4 z p1 P n) ih v2 v3 0 V hl hw
  refine lv_iconst (v := (-1)) hx hb dX12_shortestNow_0 (by decide) ?_
  refine lv_istore_n (lv' := [(2, .int (-1)), (0, .ref a_this), (1, .int p1)]) hx hb dX12_shortestNow_1 rfl hl (by decide) rfl (fun ls hl => ?_)
  refine lv_iconst (v := 0) hx hb dX12_shortestNow_2 (by decide) ?_
  refine lv_istore_n (lv' := [(3, .int 0), (2, .int (-1)), (0, .ref a_this), (1, .int p1)]) hx hb dX12_shortestNow_3 rfl hl (by decide) rfl (fun ls hl => ?_)
  obtain ⟨n_4, hw⟩ := hw
  exact B4  n_4 (-1) 0 V (lv_sub hl [2, 3, 1, 0] rfl) hw
theorem hdX12_shortest : yX12_shortest.cls = RX12 ∧ yX12_shortest.cls ≠ "java/lang/invoke/MethodHandle" ∧ yX12_shortest.cls ≠ "java/lang/invoke/VarHandle" ∧ (parseMethodDescriptor yX12_shortest.desc).map (fun d => d.parameters.length) = some 1 := by decide +kernel
theorem fX12_shortest_31 : Cond.fieldLink RX12 31 RX12 "thrown" "I" ∈ wsX12_shortest := by decide +kernel
theorem iX12_shortest_X12 : ∀ w ∈ u_ws RX12 TX12 14, w ∈ wsX12_shortest := by decide +kernel
def wX12_shortest_14 (z : Nat → Int32) (p1 : Int32) (P : Int32 → Int32 → Prop) (s1 : Int32) (thrown : Int32) : Prop := (s1 ≤ 0 → wX12_shortestNow z p1 (fun r_30 => P r_30 s1)) ∧ (¬ (s1 ≤ 0) → P 0 s1)
def wX12_shortest (z : Nat → Int32) (p1 : Int32) (P : Int32 → Int32 → Prop) (thrown : Int32) : Prop := wX12_isEntry z p1 (fun r_3 => (r_3 = 0 → wX12_shortest_14 z p1 P 1 thrown) ∧ (¬ (r_3 = 0) → wX12_shortest_14 z p1 P 0 thrown))
set_option maxHeartbeats 4000000 in
set_option maxRecDepth 100000 in
theorem kX12_shortest (l : Launch) (g : kT) (a_this : Nat) (a_this_z : Nat) (a_this_saved : Nat) (a_this_text : Nat) (a_this_line : Nat) (a_this_aside : Nat) (a_this_read : Nat) (a_this_fewest : Nat) (thrown : Int32) (z : Nat → Int32) (saves : Int32) (saved : Nat → Int32) (length : Int32) (text : Nat → Int32) (many : Int32) (line : Nat → Int32) (aside : Nat → Int32) (isWord : Int32) (entries : Int32) (rdA : Nat → Int32) (fewest : Nat → Int32) (h : Int64) (p1 : Int32) (P : Int32 → Int32 → Prop) (hw : wX12_shortest z p1 P thrown) : Ki1 l g yX12_shortest wsX12_shortest 3 70 0 0 [.ref a_this, .int p1] (gX12 g a_this a_this_z a_this_saved a_this_text a_this_line a_this_aside a_this_read a_this_fewest thrown z saves saved length text many line aside isWord entries rdA fewest h) P (fun thrown => (gX12 g a_this a_this_z a_this_saved a_this_text a_this_line a_this_aside a_this_read a_this_fewest thrown z saves saved length text many line aside isWord entries rdA fewest h)) := by
  refine Ki1.mk (cc := cX12_shortest) (nL := 2) (ty := .int) (by decide +kernel) rfl (Nat.le_of_ble_eq_true rfl) ?_
  intro p e s m below meth c A Q ls F hl V ret
  have hx := F.x
  have hb := F.b
  have hl : lv_has ls 2 [(0, .ref a_this), (1, .int p1)] := hl
  have B14 :  ∀ {H : Heap} {locs : List Loc} {ls : Array Slot} (s1 : Int32) (thrown : Int32) (V : VW g A s.heap H locs (gX12 g a_this a_this_z a_this_saved a_this_text a_this_line a_this_aside a_this_read a_this_fewest thrown z saves saved length text many line aside isWord entries rdA fewest h)) (hl : lv_has ls 2 [(0, .ref a_this), (1, .int p1)]) (hw : wX12_shortest_14 z p1 P s1 thrown), W p l e (kR 3 70 0 0) s m ([.ref a_this, .int p1] : List Value).toArray below meth c H locs 0 0 Q (F0 m 14 ls [.int s1, .ref a_this]) := by
    intro  H locs ls s1 thrown V hl hw
    refine kput F V 8 0 0 tyX12_ok nmX12 rfl rfl iX12_shortest_X12 fX12_shortest_31 (by decide) rfl rfl rfl rfl (Nat.le_of_ble_eq_true rfl) dX12_shortest_14 (fun H locs V => ?_)
    have V : VW g A s.heap H locs (gX12 g a_this a_this_z a_this_saved a_this_text a_this_line a_this_aside a_this_read a_this_fewest s1 z saves saved length text many line aside isWord entries rdA fewest h) := V
    refine lv_aload_n hx hb dX12_shortest_17 rfl (lv_at hl 0 rfl) ?_
    refine kget F V 8 0 0 rfl rfl iX12_shortest_X12 fX12_shortest_31 (by decide) rfl rfl dX12_shortest_18 ?_
    refine lv_if_le (tgt := 28) hx hb dX12_shortest_21 (by decide) (fun c_21 => ?_) (fun c_21 => ?_)
    · have hw := hw.1 c_21
      refine lv_aload_n hx hb dX12_shortest_28 rfl (lv_at hl 0 rfl) ?_
      refine lv_iload_n hx hb dX12_shortest_29 rfl (lv_at hl 1 rfl) ?_
      refine kVi0 (rest := []) F hl V [0, 1, 2, 3, 4, 5, 6, 7] [] [0, 1, 2, 3, 4, 5, 6, 7] (gX12 g a_this a_this_z a_this_saved a_this_text a_this_line a_this_aside a_this_read a_this_fewest s1 z saves saved length text many line aside isWord entries rdA fewest h) a_this 8 0 rfl rfl (kX12_shortestNow l g a_this a_this_z a_this_saved a_this_text a_this_line a_this_aside a_this_read a_this_fewest s1 z saves saved length text many line aside isWord entries rdA fewest h p1 _ hw) gX12_shortest_X12_shortestNow rfl 1 rfl hdX12_shortestNow rfl rfl (fun _ => rfl) rfl rfl rfl (by decide) ⟨Nat.le_of_ble_eq_true rfl, Nat.le_of_ble_eq_true rfl⟩ ⟨Nat.le_of_ble_eq_true rfl, Nat.le_of_ble_eq_true rfl⟩ (Nat.le_of_ble_eq_true rfl) rfl dX12_shortest_30 (fun r_30 H locs hw V => ?_)
      exact ret _ _ _ _ _ _ rfl dX12_shortest_33 V hw
    · have hw := hw.2 c_21
      refine lv_iconst (v := 0) hx hb dX12_shortest_24 (by decide) ?_
      refine lv_goto (tgt := 33) hx hb dX12_shortest_25 (by decide) ?_
      exact ret _ _ _ _ _ _ rfl dX12_shortest_33 V hw
  refine lv_aload_n hx hb dX12_shortest_0 rfl (lv_at hl 0 rfl) ?_
  refine lv_aload_n hx hb dX12_shortest_1 rfl (lv_at hl 0 rfl) ?_
  refine lv_iload_n hx hb dX12_shortest_2 rfl (lv_at hl 1 rfl) ?_
  refine kVi0 (rest := [.ref a_this]) F hl V [0, 1, 2, 3, 4, 5, 6, 7] [] [0, 1, 2, 3, 4, 5, 6, 7] (gX12 g a_this a_this_z a_this_saved a_this_text a_this_line a_this_aside a_this_read a_this_fewest thrown z saves saved length text many line aside isWord entries rdA fewest h) a_this 8 0 rfl rfl (kX12_isEntry l g a_this a_this_z a_this_saved a_this_text a_this_line a_this_aside a_this_read a_this_fewest thrown z saves saved length text many line aside isWord entries rdA fewest h p1 _ hw) gX12_shortest_X12_isEntry rfl 1 rfl hdX12_isEntry rfl rfl (fun _ => rfl) rfl rfl rfl (by decide) ⟨Nat.le_of_ble_eq_true rfl, Nat.le_of_ble_eq_true rfl⟩ ⟨Nat.le_of_ble_eq_true rfl, Nat.le_of_ble_eq_true rfl⟩ (Nat.le_of_ble_eq_true rfl) rfl dX12_shortest_3 (fun r_3 H locs hw V => ?_)
  refine lv_if_eq (tgt := 13) hx hb dX12_shortest_6 (by decide) (fun c_6 => ?_) (fun c_6 => ?_)
  · have hw := hw.1 c_6
    refine lv_iconst (v := 1) hx hb dX12_shortest_13 (by decide) ?_
    exact B14  1 thrown V hl hw
  · have hw := hw.2 c_6
    refine lv_iconst (v := 0) hx hb dX12_shortest_9 (by decide) ?_
    refine lv_goto (tgt := 14) hx hb dX12_shortest_10 (by decide) ?_
    exact B14  0 thrown V hl hw
theorem hdX12_rateNow : yX12_rateNow.cls = RX12 ∧ yX12_rateNow.cls ≠ "java/lang/invoke/MethodHandle" ∧ yX12_rateNow.cls ≠ "java/lang/invoke/VarHandle" ∧ (parseMethodDescriptor yX12_rateNow.desc).map (fun d => d.parameters.length) = some 0 := by decide +kernel
theorem fX12_rateNow_7 : Cond.fieldLink RX12 7 RX12 "z" "[I" ∈ wsX12_rateNow := by decide +kernel
theorem iX12_rateNow_X12 : ∀ w ∈ u_ws RX12 TX12 14, w ∈ wsX12_rateNow := by decide +kernel
def wX12_rateNow (z : Nat → Int32) (P : UInt64 → Prop) : Prop := vp_in 337 1317 ∧ (¬ (z (337 : Int32).toNatClampNeg) = 0 → wX12_letters z (fun r_17 => vf_n64 (FP.dmul (FP.dconst1) (FP.i2d r_17)) ∧ vp_in 337 1317 ∧ vf_n64 (FP.ddiv (FP.dmul (FP.dconst1) (FP.i2d r_17)) (FP.i2d (z (337 : Int32).toNatClampNeg))) ∧ P (FP.ddiv (FP.dmul (FP.dconst1) (FP.i2d r_17)) (FP.i2d (z (337 : Int32).toNatClampNeg))))) ∧ ((z (337 : Int32).toNatClampNeg) = 0 → P (FP.dconst0))
set_option maxHeartbeats 4000000 in
set_option maxRecDepth 100000 in
theorem kX12_rateNow (l : Launch) (g : kT) (a_this : Nat) (a_this_z : Nat) (a_this_saved : Nat) (a_this_text : Nat) (a_this_line : Nat) (a_this_aside : Nat) (a_this_read : Nat) (a_this_fewest : Nat) (thrown : Int32) (z : Nat → Int32) (saves : Int32) (saved : Nat → Int32) (length : Int32) (text : Nat → Int32) (many : Int32) (line : Nat → Int32) (aside : Nat → Int32) (isWord : Int32) (entries : Int32) (rdA : Nat → Int32) (fewest : Nat → Int32) (h : Int64) (P : UInt64 → Prop) (hw : wX12_rateNow z P) : Kd0 l g yX12_rateNow wsX12_rateNow 2 42 0 0 [.ref a_this] (gX12 g a_this a_this_z a_this_saved a_this_text a_this_line a_this_aside a_this_read a_this_fewest thrown z saves saved length text many line aside isWord entries rdA fewest h) P (gX12 g a_this a_this_z a_this_saved a_this_text a_this_line a_this_aside a_this_read a_this_fewest thrown z saves saved length text many line aside isWord entries rdA fewest h) := by
  refine Kd0.mk (cc := cX12_rateNow) (nL := 1) (by decide +kernel) rfl (Nat.le_of_ble_eq_true rfl) ?_
  intro p e s m below meth c A Q ls F hl V ret
  have hx := F.x
  have hb := F.b
  have hl : lv_has ls 1 [(0, .ref a_this)] := hl
  refine lv_aload_n hx hb dX12_rateNow_0 rfl (lv_at hl 0 rfl) ?_
  refine kget F V 8 1 0 rfl rfl iX12_rateNow_X12 fX12_rateNow_7 (by decide) rfl rfl dX12_rateNow_1 ?_
  refine lv_sipush (v := 337) hx hb dX12_rateNow_4 (by decide) ?_
  refine kiald F V 1 rfl hw.1 dX12_rateNow_7 ?_
  have hw := hw.2
  refine lv_if_ne (tgt := 15) hx hb dX12_rateNow_8 (by decide) (fun c_8 => ?_) (fun c_8 => ?_)
  · have hw := hw.1 c_8
    refine lv_dconst1 hx hb dX12_rateNow_15 ?_
    refine lv_aload_n hx hb dX12_rateNow_16 rfl (lv_at hl 0 rfl) ?_
    refine kVi0 (rest := [.double (FP.dconst1)]) F hl V [0, 1, 2, 3, 4, 5, 6, 7] [] [0, 1, 2, 3, 4, 5, 6, 7] (gX12 g a_this a_this_z a_this_saved a_this_text a_this_line a_this_aside a_this_read a_this_fewest thrown z saves saved length text many line aside isWord entries rdA fewest h) a_this 8 0 rfl rfl (kX12_letters l g a_this a_this_z a_this_saved a_this_text a_this_line a_this_aside a_this_read a_this_fewest thrown z saves saved length text many line aside isWord entries rdA fewest h _ hw) gX12_rateNow_X12_letters rfl 0 rfl hdX12_letters rfl rfl (fun _ => rfl) rfl rfl rfl (by decide) ⟨Nat.le_of_ble_eq_true rfl, Nat.le_of_ble_eq_true rfl⟩ ⟨Nat.le_of_ble_eq_true rfl, Nat.le_of_ble_eq_true rfl⟩ (Nat.le_of_ble_eq_true rfl) rfl dX12_rateNow_17 (fun r_17 H locs hw V => ?_)
    refine lv_i2d hx hb dX12_rateNow_20 ?_
    refine lv_dmul hx hb dX12_rateNow_21 hw.1 ?_
    have hw := hw.2
    refine lv_aload_n hx hb dX12_rateNow_22 rfl (lv_at hl 0 rfl) ?_
    refine kget F V 8 1 0 rfl rfl iX12_rateNow_X12 fX12_rateNow_7 (by decide) rfl rfl dX12_rateNow_23 ?_
    refine lv_sipush (v := 337) hx hb dX12_rateNow_26 (by decide) ?_
    refine kiald F V 1 rfl hw.1 dX12_rateNow_29 ?_
    have hw := hw.2
    refine lv_i2d hx hb dX12_rateNow_30 ?_
    refine lv_ddiv hx hb dX12_rateNow_31 hw.1 ?_
    have hw := hw.2
    exact ret _ _ _ _ _ dX12_rateNow_32 V hw
  · have hw := hw.2 c_8
    refine lv_dconst0 hx hb dX12_rateNow_11 ?_
    refine lv_goto (tgt := 32) hx hb dX12_rateNow_12 (by decide) ?_
    exact ret _ _ _ _ _ dX12_rateNow_32 V hw
theorem hdX12_lettersPerStroke : yX12_lettersPerStroke.cls = RX12 ∧ yX12_lettersPerStroke.cls ≠ "java/lang/invoke/MethodHandle" ∧ yX12_lettersPerStroke.cls ≠ "java/lang/invoke/VarHandle" ∧ (parseMethodDescriptor yX12_lettersPerStroke.desc).map (fun d => d.parameters.length) = some 0 := by decide +kernel
theorem fX12_lettersPerStroke_31 : Cond.fieldLink RX12 31 RX12 "thrown" "I" ∈ wsX12_lettersPerStroke := by decide +kernel
theorem iX12_lettersPerStroke_X12 : ∀ w ∈ u_ws RX12 TX12 14, w ∈ wsX12_lettersPerStroke := by decide +kernel
def wX12_lettersPerStroke (z : Nat → Int32) (P : UInt64 → Int32 → Prop) (thrown : Int32) : Prop := wX12_rateNow z (fun r_6 => P r_6 0)
set_option maxHeartbeats 4000000 in
set_option maxRecDepth 100000 in
theorem kX12_lettersPerStroke (l : Launch) (g : kT) (a_this : Nat) (a_this_z : Nat) (a_this_saved : Nat) (a_this_text : Nat) (a_this_line : Nat) (a_this_aside : Nat) (a_this_read : Nat) (a_this_fewest : Nat) (thrown : Int32) (z : Nat → Int32) (saves : Int32) (saved : Nat → Int32) (length : Int32) (text : Nat → Int32) (many : Int32) (line : Nat → Int32) (aside : Nat → Int32) (isWord : Int32) (entries : Int32) (rdA : Nat → Int32) (fewest : Nat → Int32) (h : Int64) (P : UInt64 → Int32 → Prop) (hw : wX12_lettersPerStroke z P thrown) : Kd1 l g yX12_lettersPerStroke wsX12_lettersPerStroke 3 62 0 0 [.ref a_this] (gX12 g a_this a_this_z a_this_saved a_this_text a_this_line a_this_aside a_this_read a_this_fewest thrown z saves saved length text many line aside isWord entries rdA fewest h) P (fun thrown => (gX12 g a_this a_this_z a_this_saved a_this_text a_this_line a_this_aside a_this_read a_this_fewest thrown z saves saved length text many line aside isWord entries rdA fewest h)) := by
  refine Kd1.mk (cc := cX12_lettersPerStroke) (nL := 1) (by decide +kernel) rfl (Nat.le_of_ble_eq_true rfl) ?_
  intro p e s m below meth c A Q ls F hl V ret
  have hx := F.x
  have hb := F.b
  have hl : lv_has ls 1 [(0, .ref a_this)] := hl
  refine lv_aload_n hx hb dX12_lettersPerStroke_0 rfl (lv_at hl 0 rfl) ?_
  refine lv_iconst (v := 0) hx hb dX12_lettersPerStroke_1 (by decide) ?_
  refine kput F V 8 0 0 tyX12_ok nmX12 rfl rfl iX12_lettersPerStroke_X12 fX12_lettersPerStroke_31 (by decide) rfl rfl rfl rfl (Nat.le_of_ble_eq_true rfl) dX12_lettersPerStroke_2 (fun H locs V => ?_)
  have V : VW g A s.heap H locs (gX12 g a_this a_this_z a_this_saved a_this_text a_this_line a_this_aside a_this_read a_this_fewest 0 z saves saved length text many line aside isWord entries rdA fewest h) := V
  refine lv_aload_n hx hb dX12_lettersPerStroke_5 rfl (lv_at hl 0 rfl) ?_
  refine kVd0 (rest := []) F hl V [0, 1, 2, 3, 4, 5, 6, 7] [] [0, 1, 2, 3, 4, 5, 6, 7] (gX12 g a_this a_this_z a_this_saved a_this_text a_this_line a_this_aside a_this_read a_this_fewest 0 z saves saved length text many line aside isWord entries rdA fewest h) a_this 8 0 rfl rfl (kX12_rateNow l g a_this a_this_z a_this_saved a_this_text a_this_line a_this_aside a_this_read a_this_fewest 0 z saves saved length text many line aside isWord entries rdA fewest h _ hw) gX12_lettersPerStroke_X12_rateNow rfl 0 rfl hdX12_rateNow rfl rfl (fun _ => rfl) rfl rfl rfl (by decide) ⟨Nat.le_of_ble_eq_true rfl, Nat.le_of_ble_eq_true rfl⟩ ⟨Nat.le_of_ble_eq_true rfl, Nat.le_of_ble_eq_true rfl⟩ (Nat.le_of_ble_eq_true rfl) rfl dX12_lettersPerStroke_6 (fun r_6 H locs hw V => ?_)
  exact ret _ _ _ _ _ _ dX12_lettersPerStroke_9 V hw
theorem hdX12_mix : yX12_mix.cls = RX12 ∧ yX12_mix.cls ≠ "java/lang/invoke/MethodHandle" ∧ yX12_mix.cls ≠ "java/lang/invoke/VarHandle" ∧ (parseMethodDescriptor yX12_mix.desc).map (fun d => d.parameters.length) = some 1 := by decide +kernel
theorem fX12_mix_219 : Cond.fieldLink RX12 219 RX12 "h" "J" ∈ wsX12_mix := by decide +kernel
theorem iX12_mix_X12 : ∀ w ∈ u_ws RX12 TX12 14, w ∈ wsX12_mix := by decide +kernel
def wX12_mix (p1 : Int64) (P : Int64 → Prop) (h : Int64) : Prop := ∀ h_11 : Int64, h_11 = ((31 * h) + p1) → P h_11
set_option maxHeartbeats 4000000 in
set_option maxRecDepth 100000 in
theorem kX12_mix (l : Launch) (g : kT) (a_this : Nat) (a_this_z : Nat) (a_this_saved : Nat) (a_this_text : Nat) (a_this_line : Nat) (a_this_aside : Nat) (a_this_read : Nat) (a_this_fewest : Nat) (thrown : Int32) (z : Nat → Int32) (saves : Int32) (saved : Nat → Int32) (length : Int32) (text : Nat → Int32) (many : Int32) (line : Nat → Int32) (aside : Nat → Int32) (isWord : Int32) (entries : Int32) (rdA : Nat → Int32) (fewest : Nat → Int32) (h : Int64) (p1 : Int64) (P : Int64 → Prop) (hw : wX12_mix p1 P h) : Kv1 l g yX12_mix wsX12_mix 0 0 0 0 [.ref a_this, .long p1] (gX12 g a_this a_this_z a_this_saved a_this_text a_this_line a_this_aside a_this_read a_this_fewest thrown z saves saved length text many line aside isWord entries rdA fewest h) P (fun h => (gX12 g a_this a_this_z a_this_saved a_this_text a_this_line a_this_aside a_this_read a_this_fewest thrown z saves saved length text many line aside isWord entries rdA fewest h)) := by
  refine Kv1.mk (cc := cX12_mix) (nL := 3) (by decide +kernel) rfl (Nat.le_of_ble_eq_true rfl) ?_
  intro p e s m below meth c A Q ls F hl V ret _
  have hx := F.x
  have hb := F.b
  have hl : lv_has ls 3 [(0, .ref a_this), (1, .long p1)] := hl
  refine lv_aload_n hx hb dX12_mix_0 rfl (lv_at hl 0 rfl) ?_
  refine lv_ldc2 (v := 31) hx hb F.ow (F.ts (.constantLong RX12 217 31) (by decide +kernel)) dX12_mix_1 ?_
  refine lv_aload_n hx hb dX12_mix_4 rfl (lv_at hl 0 rfl) ?_
  refine kget F V 8 13 0 rfl rfl iX12_mix_X12 fX12_mix_219 (by decide) rfl rfl dX12_mix_5 ?_
  refine lv_lmul hx hb dX12_mix_8 ?_
  refine lv_lload_n hx hb dX12_mix_9 rfl (lv_at hl 1 rfl) ?_
  refine lv_ladd hx hb dX12_mix_10 ?_
  refine lv_topl (fun h_11 eh_11 => ?_)
  have hw := hw h_11 eh_11
  refine kput F V 8 13 0 tyX12_ok nmX12 rfl rfl iX12_mix_X12 fX12_mix_219 (by decide) rfl rfl rfl rfl (Nat.le_of_ble_eq_true rfl) dX12_mix_11 (fun H locs V => ?_)
  have V : VW g A s.heap H locs (gX12 g a_this a_this_z a_this_saved a_this_text a_this_line a_this_aside a_this_read a_this_fewest thrown z saves saved length text many line aside isWord entries rdA fewest h_11) := V
  exact ret _ _ _ _ _ dX12_mix_14 V hw
theorem hdX12_mixItem : yX12_mixItem.cls = RX12 ∧ yX12_mixItem.cls ≠ "java/lang/invoke/MethodHandle" ∧ yX12_mixItem.cls ≠ "java/lang/invoke/VarHandle" ∧ (parseMethodDescriptor yX12_mixItem.desc).map (fun d => d.parameters.length) = some 1 := by decide +kernel
theorem fX12_mixItem_7 : Cond.fieldLink RX12 7 RX12 "z" "[I" ∈ wsX12_mixItem := by decide +kernel
theorem iX12_mixItem_X12 : ∀ w ∈ u_ws RX12 TX12 14, w ∈ wsX12_mixItem := by decide +kernel
def wX12_mixItem_2 (z : Nat → Int32) (p1 : Int32) (P : Int64 → Prop) : Nat → Int32 → Int64 → Prop
  | 0, _, _ => False
  | n + 1, v2, h => wX12_itemAt p1 (fun r_9 => vp_in (r_9 + 2) 1317 ∧ ((5 + (z (r_9 + 2).toNatClampNeg)) ≤ v2 → P h) ∧ (¬ ((5 + (z (r_9 + 2).toNatClampNeg)) ≤ v2) → wX12_itemNow z p1 v2 (fun r_23 => wX12_mix (r_23.toInt64) (fun h_27 => (wX12_mixItem_2 z p1 P n) (v2 + 1) h_27) h)))
def wX12_mixItem (z : Nat → Int32) (p1 : Int32) (P : Int64 → Prop) (h : Int64) : Prop := ∃ n_2, wX12_mixItem_2 z p1 P n_2 0 h
set_option maxHeartbeats 4000000 in
set_option maxRecDepth 100000 in
theorem kX12_mixItem (l : Launch) (g : kT) (a_this : Nat) (a_this_z : Nat) (a_this_saved : Nat) (a_this_text : Nat) (a_this_line : Nat) (a_this_aside : Nat) (a_this_read : Nat) (a_this_fewest : Nat) (thrown : Int32) (z : Nat → Int32) (saves : Int32) (saved : Nat → Int32) (length : Int32) (text : Nat → Int32) (many : Int32) (line : Nat → Int32) (aside : Nat → Int32) (isWord : Int32) (entries : Int32) (rdA : Nat → Int32) (fewest : Nat → Int32) (h : Int64) (p1 : Int32) (P : Int64 → Prop) (hw : wX12_mixItem z p1 P h) : Kv1 l g yX12_mixItem wsX12_mixItem 3 65 0 0 [.ref a_this, .int p1] (gX12 g a_this a_this_z a_this_saved a_this_text a_this_line a_this_aside a_this_read a_this_fewest thrown z saves saved length text many line aside isWord entries rdA fewest h) P (fun h => (gX12 g a_this a_this_z a_this_saved a_this_text a_this_line a_this_aside a_this_read a_this_fewest thrown z saves saved length text many line aside isWord entries rdA fewest h)) := by
  refine Kv1.mk (cc := cX12_mixItem) (nL := 3) (by decide +kernel) rfl (Nat.le_of_ble_eq_true rfl) ?_
  intro p e s m below meth c A Q ls F hl V ret _
  have hx := F.x
  have hb := F.b
  have hl : lv_has ls 3 [(0, .ref a_this), (1, .int p1)] := hl
  have B2 :  ∀ (n : Nat), ∀ {H : Heap} {locs : List Loc} {ls : Array Slot} (v2 : Int32) (h : Int64) (V : VW g A s.heap H locs (gX12 g a_this a_this_z a_this_saved a_this_text a_this_line a_this_aside a_this_read a_this_fewest thrown z saves saved length text many line aside isWord entries rdA fewest h)) (hl : lv_has ls 3 [(0, .ref a_this), (1, .int p1), (2, .int v2)]) (hw : wX12_mixItem_2 z p1 P n v2 h), W p l e (kR 3 65 0 0) s m ([.ref a_this, .int p1] : List Value).toArray below meth c H locs 0 0 Q (F0 m 2 ls []) := by
    intro n
    induction n with
    | zero => intro _ _ _ _ _ V hl hw; exact hw.elim
    | succ n ih =>
      intro H locs ls v2 h V hl hw
      refine lv_iload_n hx hb dX12_mixItem_2 rfl (lv_at hl 2 rfl) ?_
      refine lv_iconst (v := 5) hx hb dX12_mixItem_3 (by decide) ?_
      refine lv_aload_n hx hb dX12_mixItem_4 rfl (lv_at hl 0 rfl) ?_
      refine kget F V 8 1 0 rfl rfl iX12_mixItem_X12 fX12_mixItem_7 (by decide) rfl rfl dX12_mixItem_5 ?_
      refine lv_iload_n hx hb dX12_mixItem_8 rfl (lv_at hl 1 rfl) ?_
      refine kSi0n (rest := [.ref a_this_z, .int 5, .int v2]) F hl V (kX12_itemAt l g p1 _ hw) gX12_mixItem_X12_itemAt rfl 1 rfl hdX12_itemAt ⟨Nat.le_of_ble_eq_true rfl, Nat.le_of_ble_eq_true rfl⟩ ⟨Nat.le_of_ble_eq_true rfl, Nat.le_of_ble_eq_true rfl⟩ (Nat.le_of_ble_eq_true rfl) rfl dX12_mixItem_9 (fun r_9 H locs hw V => ?_)
      refine lv_iconst (v := 2) hx hb dX12_mixItem_12 (by decide) ?_
      refine lv_iadd hx hb dX12_mixItem_13 ?_
      refine kiald F V 1 rfl hw.1 dX12_mixItem_14 ?_
      have hw := hw.2
      refine lv_iadd hx hb dX12_mixItem_15 ?_
      refine lv_icmp_ge (tgt := 36) hx hb dX12_mixItem_16 (by decide) (fun c_16 => ?_) (fun c_16 => ?_)
      · have hw := hw.1 c_16
        exact ret _ _ _ _ _ dX12_mixItem_36 V hw
      · have hw := hw.2 c_16
        refine lv_aload_n hx hb dX12_mixItem_19 rfl (lv_at hl 0 rfl) ?_
        refine lv_aload_n hx hb dX12_mixItem_20 rfl (lv_at hl 0 rfl) ?_
        refine lv_iload_n hx hb dX12_mixItem_21 rfl (lv_at hl 1 rfl) ?_
        refine lv_iload_n hx hb dX12_mixItem_22 rfl (lv_at hl 2 rfl) ?_
        refine kVi0 (rest := [.ref a_this]) F hl V [0, 1, 2, 3, 4, 5, 6, 7] [] [0, 1, 2, 3, 4, 5, 6, 7] (gX12 g a_this a_this_z a_this_saved a_this_text a_this_line a_this_aside a_this_read a_this_fewest thrown z saves saved length text many line aside isWord entries rdA fewest h) a_this 8 0 rfl rfl (kX12_itemNow l g a_this a_this_z a_this_saved a_this_text a_this_line a_this_aside a_this_read a_this_fewest thrown z saves saved length text many line aside isWord entries rdA fewest h p1 v2 _ hw) gX12_mixItem_X12_itemNow rfl 2 rfl hdX12_itemNow rfl rfl (fun _ => rfl) rfl rfl rfl (by decide) ⟨Nat.le_of_ble_eq_true rfl, Nat.le_of_ble_eq_true rfl⟩ ⟨Nat.le_of_ble_eq_true rfl, Nat.le_of_ble_eq_true rfl⟩ (Nat.le_of_ble_eq_true rfl) rfl dX12_mixItem_23 (fun r_23 H locs hw V => ?_)
        refine lv_i2l hx hb dX12_mixItem_26 rfl ?_
        refine kVv1 (rest := []) F hl V [0, 1, 2, 3, 4, 5, 6, 7] [] [0, 1, 2, 3, 4, 5, 6, 7] (fun h_27 => (gX12 g a_this a_this_z a_this_saved a_this_text a_this_line a_this_aside a_this_read a_this_fewest thrown z saves saved length text many line aside isWord entries rdA fewest h_27)) a_this 8 0 rfl rfl (kX12_mix l g a_this a_this_z a_this_saved a_this_text a_this_line a_this_aside a_this_read a_this_fewest thrown z saves saved length text many line aside isWord entries rdA fewest h (r_23.toInt64) _ hw) gX12_mixItem_X12_mix rfl 1 rfl hdX12_mix rfl rfl (fun _ => rfl) rfl rfl rfl (by decide) ⟨Nat.le_of_ble_eq_true rfl, Nat.le_of_ble_eq_true rfl⟩ ⟨Nat.le_of_ble_eq_true rfl, Nat.le_of_ble_eq_true rfl⟩ (Nat.le_of_ble_eq_true rfl) rfl dX12_mixItem_27 (fun h_27 H locs hw V => ?_)
        refine lv_iinc (v := v2 + 1) (lv' := [(2, .int (v2 + 1)), (0, .ref a_this), (1, .int p1)]) hx hb dX12_mixItem_30 hl (k := 2) rfl rfl (by decide) rfl (fun ls hl => ?_)
        refine lv_goto (tgt := 2) hx hb dX12_mixItem_33 (by decide) ?_
        exact ih (v2 + 1) h_27 V (lv_sub hl [1, 2, 0] rfl) hw
  refine lv_iconst (v := 0) hx hb dX12_mixItem_0 (by decide) ?_
  refine lv_istore_n (lv' := [(2, .int 0), (0, .ref a_this), (1, .int p1)]) hx hb dX12_mixItem_1 rfl hl (by decide) rfl (fun ls hl => ?_)
  obtain ⟨n_2, hw⟩ := hw
  exact B2  n_2 0 h V (lv_sub hl [1, 2, 0] rfl) hw
theorem hdX12_mixEntry : yX12_mixEntry.cls = RX12 ∧ yX12_mixEntry.cls ≠ "java/lang/invoke/MethodHandle" ∧ yX12_mixEntry.cls ≠ "java/lang/invoke/VarHandle" ∧ (parseMethodDescriptor yX12_mixEntry.desc).map (fun d => d.parameters.length) = some 1 := by decide +kernel
def wX12_mixEntry_2 (z : Nat → Int32) (p1 : Int32) (P : Int64 → Prop) : Nat → Int32 → Int64 → Prop
  | 0, _, _ => False
  | n + 1, v2, h => (16 ≤ v2 → wX12_shortestNow z p1 (fun r_28 => wX12_mix (r_28.toInt64) (fun h_32 => P h_32) h)) ∧ (¬ (16 ≤ v2) → wX12_entryNow z p1 v2 (fun r_12 => wX12_mix (r_12.toInt64) (fun h_16 => (wX12_mixEntry_2 z p1 P n) (v2 + 1) h_16) h))
def wX12_mixEntry (z : Nat → Int32) (p1 : Int32) (P : Int64 → Prop) (h : Int64) : Prop := ∃ n_2, wX12_mixEntry_2 z p1 P n_2 0 h
set_option maxHeartbeats 4000000 in
set_option maxRecDepth 100000 in
theorem kX12_mixEntry (l : Launch) (g : kT) (a_this : Nat) (a_this_z : Nat) (a_this_saved : Nat) (a_this_text : Nat) (a_this_line : Nat) (a_this_aside : Nat) (a_this_read : Nat) (a_this_fewest : Nat) (thrown : Int32) (z : Nat → Int32) (saves : Int32) (saved : Nat → Int32) (length : Int32) (text : Nat → Int32) (many : Int32) (line : Nat → Int32) (aside : Nat → Int32) (isWord : Int32) (entries : Int32) (rdA : Nat → Int32) (fewest : Nat → Int32) (h : Int64) (p1 : Int32) (P : Int64 → Prop) (hw : wX12_mixEntry z p1 P h) : Kv1 l g yX12_mixEntry wsX12_mixEntry 5 118 0 0 [.ref a_this, .int p1] (gX12 g a_this a_this_z a_this_saved a_this_text a_this_line a_this_aside a_this_read a_this_fewest thrown z saves saved length text many line aside isWord entries rdA fewest h) P (fun h => (gX12 g a_this a_this_z a_this_saved a_this_text a_this_line a_this_aside a_this_read a_this_fewest thrown z saves saved length text many line aside isWord entries rdA fewest h)) := by
  refine Kv1.mk (cc := cX12_mixEntry) (nL := 3) (by decide +kernel) rfl (Nat.le_of_ble_eq_true rfl) ?_
  intro p e s m below meth c A Q ls F hl V ret _
  have hx := F.x
  have hb := F.b
  have hl : lv_has ls 3 [(0, .ref a_this), (1, .int p1)] := hl
  have B2 :  ∀ (n : Nat), ∀ {H : Heap} {locs : List Loc} {ls : Array Slot} (v2 : Int32) (h : Int64) (V : VW g A s.heap H locs (gX12 g a_this a_this_z a_this_saved a_this_text a_this_line a_this_aside a_this_read a_this_fewest thrown z saves saved length text many line aside isWord entries rdA fewest h)) (hl : lv_has ls 3 [(0, .ref a_this), (1, .int p1), (2, .int v2)]) (hw : wX12_mixEntry_2 z p1 P n v2 h), W p l e (kR 5 118 0 0) s m ([.ref a_this, .int p1] : List Value).toArray below meth c H locs 0 0 Q (F0 m 2 ls []) := by
    intro n
    induction n with
    | zero => intro _ _ _ _ _ V hl hw; exact hw.elim
    | succ n ih =>
      intro H locs ls v2 h V hl hw
      refine lv_iload_n hx hb dX12_mixEntry_2 rfl (lv_at hl 2 rfl) ?_
      refine lv_bipush (v := 16) hx hb dX12_mixEntry_3 (by decide) ?_
      refine lv_icmp_ge (tgt := 25) hx hb dX12_mixEntry_5 (by decide) (fun c_5 => ?_) (fun c_5 => ?_)
      · have hw := hw.1 c_5
        refine lv_aload_n hx hb dX12_mixEntry_25 rfl (lv_at hl 0 rfl) ?_
        refine lv_aload_n hx hb dX12_mixEntry_26 rfl (lv_at hl 0 rfl) ?_
        refine lv_iload_n hx hb dX12_mixEntry_27 rfl (lv_at hl 1 rfl) ?_
        refine kVi0 (rest := [.ref a_this]) F hl V [0, 1, 2, 3, 4, 5, 6, 7] [] [0, 1, 2, 3, 4, 5, 6, 7] (gX12 g a_this a_this_z a_this_saved a_this_text a_this_line a_this_aside a_this_read a_this_fewest thrown z saves saved length text many line aside isWord entries rdA fewest h) a_this 8 0 rfl rfl (kX12_shortestNow l g a_this a_this_z a_this_saved a_this_text a_this_line a_this_aside a_this_read a_this_fewest thrown z saves saved length text many line aside isWord entries rdA fewest h p1 _ hw) gX12_mixEntry_X12_shortestNow rfl 1 rfl hdX12_shortestNow rfl rfl (fun _ => rfl) rfl rfl rfl (by decide) ⟨Nat.le_of_ble_eq_true rfl, Nat.le_of_ble_eq_true rfl⟩ ⟨Nat.le_of_ble_eq_true rfl, Nat.le_of_ble_eq_true rfl⟩ (Nat.le_of_ble_eq_true rfl) rfl dX12_mixEntry_28 (fun r_28 H locs hw V => ?_)
        refine lv_i2l hx hb dX12_mixEntry_31 rfl ?_
        refine kVv1 (rest := []) F hl V [0, 1, 2, 3, 4, 5, 6, 7] [] [0, 1, 2, 3, 4, 5, 6, 7] (fun h_32 => (gX12 g a_this a_this_z a_this_saved a_this_text a_this_line a_this_aside a_this_read a_this_fewest thrown z saves saved length text many line aside isWord entries rdA fewest h_32)) a_this 8 0 rfl rfl (kX12_mix l g a_this a_this_z a_this_saved a_this_text a_this_line a_this_aside a_this_read a_this_fewest thrown z saves saved length text many line aside isWord entries rdA fewest h (r_28.toInt64) _ hw) gX12_mixEntry_X12_mix rfl 1 rfl hdX12_mix rfl rfl (fun _ => rfl) rfl rfl rfl (by decide) ⟨Nat.le_of_ble_eq_true rfl, Nat.le_of_ble_eq_true rfl⟩ ⟨Nat.le_of_ble_eq_true rfl, Nat.le_of_ble_eq_true rfl⟩ (Nat.le_of_ble_eq_true rfl) rfl dX12_mixEntry_32 (fun h_32 H locs hw V => ?_)
        exact ret _ _ _ _ _ dX12_mixEntry_35 V hw
      · have hw := hw.2 c_5
        refine lv_aload_n hx hb dX12_mixEntry_8 rfl (lv_at hl 0 rfl) ?_
        refine lv_aload_n hx hb dX12_mixEntry_9 rfl (lv_at hl 0 rfl) ?_
        refine lv_iload_n hx hb dX12_mixEntry_10 rfl (lv_at hl 1 rfl) ?_
        refine lv_iload_n hx hb dX12_mixEntry_11 rfl (lv_at hl 2 rfl) ?_
        refine kVi0 (rest := [.ref a_this]) F hl V [0, 1, 2, 3, 4, 5, 6, 7] [] [0, 1, 2, 3, 4, 5, 6, 7] (gX12 g a_this a_this_z a_this_saved a_this_text a_this_line a_this_aside a_this_read a_this_fewest thrown z saves saved length text many line aside isWord entries rdA fewest h) a_this 8 0 rfl rfl (kX12_entryNow l g a_this a_this_z a_this_saved a_this_text a_this_line a_this_aside a_this_read a_this_fewest thrown z saves saved length text many line aside isWord entries rdA fewest h p1 v2 _ hw) gX12_mixEntry_X12_entryNow rfl 2 rfl hdX12_entryNow rfl rfl (fun _ => rfl) rfl rfl rfl (by decide) ⟨Nat.le_of_ble_eq_true rfl, Nat.le_of_ble_eq_true rfl⟩ ⟨Nat.le_of_ble_eq_true rfl, Nat.le_of_ble_eq_true rfl⟩ (Nat.le_of_ble_eq_true rfl) rfl dX12_mixEntry_12 (fun r_12 H locs hw V => ?_)
        refine lv_i2l hx hb dX12_mixEntry_15 rfl ?_
        refine kVv1 (rest := []) F hl V [0, 1, 2, 3, 4, 5, 6, 7] [] [0, 1, 2, 3, 4, 5, 6, 7] (fun h_16 => (gX12 g a_this a_this_z a_this_saved a_this_text a_this_line a_this_aside a_this_read a_this_fewest thrown z saves saved length text many line aside isWord entries rdA fewest h_16)) a_this 8 0 rfl rfl (kX12_mix l g a_this a_this_z a_this_saved a_this_text a_this_line a_this_aside a_this_read a_this_fewest thrown z saves saved length text many line aside isWord entries rdA fewest h (r_12.toInt64) _ hw) gX12_mixEntry_X12_mix rfl 1 rfl hdX12_mix rfl rfl (fun _ => rfl) rfl rfl rfl (by decide) ⟨Nat.le_of_ble_eq_true rfl, Nat.le_of_ble_eq_true rfl⟩ ⟨Nat.le_of_ble_eq_true rfl, Nat.le_of_ble_eq_true rfl⟩ (Nat.le_of_ble_eq_true rfl) rfl dX12_mixEntry_16 (fun h_16 H locs hw V => ?_)
        refine lv_iinc (v := v2 + 1) (lv' := [(2, .int (v2 + 1)), (0, .ref a_this), (1, .int p1)]) hx hb dX12_mixEntry_19 hl (k := 2) rfl rfl (by decide) rfl (fun ls hl => ?_)
        refine lv_goto (tgt := 2) hx hb dX12_mixEntry_22 (by decide) ?_
        exact ih (v2 + 1) h_16 V (lv_sub hl [1, 2, 0] rfl) hw
  refine lv_iconst (v := 0) hx hb dX12_mixEntry_0 (by decide) ?_
  refine lv_istore_n (lv' := [(2, .int 0), (0, .ref a_this), (1, .int p1)]) hx hb dX12_mixEntry_1 rfl hl (by decide) rfl (fun ls hl => ?_)
  obtain ⟨n_2, hw⟩ := hw
  exact B2  n_2 0 h V (lv_sub hl [1, 2, 0] rfl) hw
theorem hdX12_digest : yX12_digest.cls = RX12 ∧ yX12_digest.cls ≠ "java/lang/invoke/MethodHandle" ∧ yX12_digest.cls ≠ "java/lang/invoke/VarHandle" ∧ (parseMethodDescriptor yX12_digest.desc).map (fun d => d.parameters.length) = some 0 := by decide +kernel
theorem fX12_digest_31 : Cond.fieldLink RX12 31 RX12 "thrown" "I" ∈ wsX12_digest := by decide +kernel
theorem iX12_digest_X12 : ∀ w ∈ u_ws RX12 TX12 14, w ∈ wsX12_digest := by decide +kernel
theorem fX12_digest_219 : Cond.fieldLink RX12 219 RX12 "h" "J" ∈ wsX12_digest := by decide +kernel
theorem fX12_digest_7 : Cond.fieldLink RX12 7 RX12 "z" "[I" ∈ wsX12_digest := by decide +kernel
theorem fX12_digest_121 : Cond.fieldLink RX12 121 RX12 "length" "I" ∈ wsX12_digest := by decide +kernel
theorem fX12_digest_16 : Cond.fieldLink RX12 16 RX12 "text" "[I" ∈ wsX12_digest := by decide +kernel
def wX12_digest_161 (z : Nat → Int32) (saves : Int32) (length : Int32) (text : Nat → Int32) (P : Int64 → Int32 → Int32 → (Nat → Int32) → (Nat → Int32) → Int64 → Prop) : Nat → Int32 → Int32 → Int32 → (Nat → Int32) → (Nat → Int32) → Int64 → Prop
  | 0, _, _, _, _, _, _ => False
  | n + 1, v1, thrown, many, line, fewest, h => (length ≤ v1 → P h thrown many line fewest h) ∧ (¬ (length ≤ v1) → vp_in v1 60 ∧ wX12_mix ((text v1.toNatClampNeg).toInt64) (fun h_177 => (wX12_digest_161 z saves length text P n) (v1 + 1) thrown many line fewest h_177) h)
def wX12_digest_100 (z : Nat → Int32) (saves : Int32) (length : Int32) (text : Nat → Int32) (P : Int64 → Int32 → Int32 → (Nat → Int32) → (Nat → Int32) → Int64 → Prop) : Nat → Int32 → Int32 → Int32 → (Nat → Int32) → (Nat → Int32) → Int64 → Prop
  | 0, _, _, _, _, _, _ => False
  | n + 1, v1, thrown, many, line, fewest, h => vp_in 0 1317 ∧ ((z (0 : Int32).toNatClampNeg) ≤ v1 → wX12_fewestNow z length text (fun r_123 fewest_123 => wX12_mix (r_123.toInt64) (fun h_127 => wX12_backNow z length text (fun r_132 many_132 line_132 fewest_132 => wX12_mix (r_132.toInt64) (fun h_136 => wX12_rateNow z (fun r_141 => wJxe99ae_doubleToLongBits_ccdee r_141 (fun r_144 => wX12_mix r_144 (fun h_147 => wX12_mix (length.toInt64) (fun h_156 => ∃ n_161, wX12_digest_161 z saves length text P n_161 0 thrown many_132 line_132 fewest_132 h_156) h_147) h_136))) h_127) many line fewest_123) h) fewest) ∧ (¬ ((z (0 : Int32).toNatClampNeg) ≤ v1) → wX12_mixEntry z v1 (fun h_112 => (wX12_digest_100 z saves length text P n) (v1 + 1) thrown many line fewest h_112) h)
def wX12_digest_75 (z : Nat → Int32) (saves : Int32) (length : Int32) (text : Nat → Int32) (P : Int64 → Int32 → Int32 → (Nat → Int32) → (Nat → Int32) → Int64 → Prop) : Nat → Int32 → Int32 → Int32 → (Nat → Int32) → (Nat → Int32) → Int64 → Prop
  | 0, _, _, _, _, _, _ => False
  | n + 1, v1, thrown, many, line, fewest, h => vp_in 399 1317 ∧ ((z (399 : Int32).toNatClampNeg) ≤ v1 → ∃ n_100, wX12_digest_100 z saves length text P n_100 0 thrown many line fewest h) ∧ (¬ ((z (399 : Int32).toNatClampNeg) ≤ v1) → wX12_mixItem z v1 (fun h_89 => (wX12_digest_75 z saves length text P n) (v1 + 1) thrown many line fewest h_89) h)
def wX12_digest_38 (z : Nat → Int32) (saves : Int32) (length : Int32) (text : Nat → Int32) (P : Int64 → Int32 → Int32 → (Nat → Int32) → (Nat → Int32) → Int64 → Prop) : Nat → Int32 → Int32 → Int32 → (Nat → Int32) → (Nat → Int32) → Int64 → Prop
  | 0, _, _, _, _, _, _ => False
  | n + 1, v1, thrown, many, line, fewest, h => vp_in 337 1317 ∧ ((3 * (z (337 : Int32).toNatClampNeg)) ≤ v1 → ∃ n_75, wX12_digest_75 z saves length text P n_75 0 thrown many line fewest h) ∧ (¬ ((3 * (z (337 : Int32).toNatClampNeg)) ≤ v1) → wX12_strokeNow z (v1 / 3) (v1 - v1 / 3 * 3) (fun r_60 => wX12_mix (r_60.toInt64) (fun h_64 => (wX12_digest_38 z saves length text P n) (v1 + 1) thrown many line fewest h_64) h))
def wX12_digest_14 (z : Nat → Int32) (saves : Int32) (length : Int32) (text : Nat → Int32) (P : Int64 → Int32 → Int32 → (Nat → Int32) → (Nat → Int32) → Int64 → Prop) : Nat → Int32 → Int32 → Int32 → (Nat → Int32) → (Nat → Int32) → Int64 → Prop
  | 0, _, _, _, _, _, _ => False
  | n + 1, v1, thrown, many, line, fewest, h => (10 ≤ v1 → ∃ n_38, wX12_digest_38 z saves length text P n_38 0 thrown many line fewest h) ∧ (¬ (10 ≤ v1) → wX12_counted z saves v1 (fun r_23 => wX12_mix (r_23.toInt64) (fun h_27 => (wX12_digest_14 z saves length text P n) (v1 + 1) thrown many line fewest h_27) h))
def wX12_digest (z : Nat → Int32) (saves : Int32) (length : Int32) (text : Nat → Int32) (P : Int64 → Int32 → Int32 → (Nat → Int32) → (Nat → Int32) → Int64 → Prop) (thrown : Int32) (many : Int32) (line : Nat → Int32) (fewest : Nat → Int32) (h : Int64) : Prop := ∃ n_14, wX12_digest_14 z saves length text P n_14 0 0 many line fewest 2221
set_option maxHeartbeats 4000000 in
set_option maxRecDepth 100000 in
theorem kX12_digest (l : Launch) (g : kT) (a_this : Nat) (a_this_z : Nat) (a_this_saved : Nat) (a_this_text : Nat) (a_this_line : Nat) (a_this_aside : Nat) (a_this_read : Nat) (a_this_fewest : Nat) (thrown : Int32) (z : Nat → Int32) (saves : Int32) (saved : Nat → Int32) (length : Int32) (text : Nat → Int32) (many : Int32) (line : Nat → Int32) (aside : Nat → Int32) (isWord : Int32) (entries : Int32) (rdA : Nat → Int32) (fewest : Nat → Int32) (h : Int64) (P : Int64 → Int32 → Int32 → (Nat → Int32) → (Nat → Int32) → Int64 → Prop) (hw : wX12_digest z saves length text P thrown many line fewest h) : Kl5 l g yX12_digest wsX12_digest 6 140 0 0 [.ref a_this] (gX12 g a_this a_this_z a_this_saved a_this_text a_this_line a_this_aside a_this_read a_this_fewest thrown z saves saved length text many line aside isWord entries rdA fewest h) P (fun thrown many line fewest h => (gX12 g a_this a_this_z a_this_saved a_this_text a_this_line a_this_aside a_this_read a_this_fewest thrown z saves saved length text many line aside isWord entries rdA fewest h)) := by
  refine Kl5.mk (cc := cX12_digest) (nL := 2) (by decide +kernel) rfl (Nat.le_of_ble_eq_true rfl) ?_
  intro p e s m below meth c A Q ls F hl V ret
  have hx := F.x
  have hb := F.b
  have hl : lv_has ls 2 [(0, .ref a_this)] := hl
  have B161 :  ∀ (n : Nat), ∀ {H : Heap} {locs : List Loc} {ls : Array Slot} (v1 : Int32) (thrown : Int32) (many : Int32) (line : Nat → Int32) (fewest : Nat → Int32) (h : Int64) (V : VW g A s.heap H locs (gX12 g a_this a_this_z a_this_saved a_this_text a_this_line a_this_aside a_this_read a_this_fewest thrown z saves saved length text many line aside isWord entries rdA fewest h)) (hl : lv_has ls 2 [(0, .ref a_this), (1, .int v1)]) (hw : wX12_digest_161 z saves length text P n v1 thrown many line fewest h), W p l e (kR 6 140 0 0) s m ([.ref a_this] : List Value).toArray below meth c H locs 0 0 Q (F0 m 161 ls []) := by
    intro n
    induction n with
    | zero => intro _ _ _ _ _ _ _ _ _ V hl hw; exact hw.elim
    | succ n ih =>
      intro H locs ls v1 thrown many line fewest h V hl hw
      refine lv_iload_n hx hb dX12_digest_161 rfl (lv_at hl 1 rfl) ?_
      refine lv_aload_n hx hb dX12_digest_162 rfl (lv_at hl 0 rfl) ?_
      refine kget F V 8 4 0 rfl rfl iX12_digest_X12 fX12_digest_121 (by decide) rfl rfl dX12_digest_163 ?_
      refine lv_icmp_ge (tgt := 186) hx hb dX12_digest_166 (by decide) (fun c_166 => ?_) (fun c_166 => ?_)
      · have hw := hw.1 c_166
        refine lv_aload_n hx hb dX12_digest_186 rfl (lv_at hl 0 rfl) ?_
        refine kget F V 8 13 0 rfl rfl iX12_digest_X12 fX12_digest_219 (by decide) rfl rfl dX12_digest_187 ?_
        exact ret _ _ _ _ _ _ _ _ _ _ dX12_digest_190 V hw
      · have hw := hw.2 c_166
        refine lv_aload_n hx hb dX12_digest_169 rfl (lv_at hl 0 rfl) ?_
        refine lv_aload_n hx hb dX12_digest_170 rfl (lv_at hl 0 rfl) ?_
        refine kget F V 8 5 0 rfl rfl iX12_digest_X12 fX12_digest_16 (by decide) rfl rfl dX12_digest_171 ?_
        refine lv_iload_n hx hb dX12_digest_174 rfl (lv_at hl 1 rfl) ?_
        refine kiald F V 3 rfl hw.1 dX12_digest_175 ?_
        have hw := hw.2
        refine lv_i2l hx hb dX12_digest_176 rfl ?_
        refine kVv1 (rest := []) F hl V [0, 1, 2, 3, 4, 5, 6, 7] [] [0, 1, 2, 3, 4, 5, 6, 7] (fun h_177 => (gX12 g a_this a_this_z a_this_saved a_this_text a_this_line a_this_aside a_this_read a_this_fewest thrown z saves saved length text many line aside isWord entries rdA fewest h_177)) a_this 8 0 rfl rfl (kX12_mix l g a_this a_this_z a_this_saved a_this_text a_this_line a_this_aside a_this_read a_this_fewest thrown z saves saved length text many line aside isWord entries rdA fewest h ((text v1.toNatClampNeg).toInt64) _ hw) gX12_digest_X12_mix rfl 1 rfl hdX12_mix rfl rfl (fun _ => rfl) rfl rfl rfl (by decide) ⟨Nat.le_of_ble_eq_true rfl, Nat.le_of_ble_eq_true rfl⟩ ⟨Nat.le_of_ble_eq_true rfl, Nat.le_of_ble_eq_true rfl⟩ (Nat.le_of_ble_eq_true rfl) rfl dX12_digest_177 (fun h_177 H locs hw V => ?_)
        refine lv_iinc (v := v1 + 1) (lv' := [(1, .int (v1 + 1)), (0, .ref a_this)]) hx hb dX12_digest_180 hl (k := 1) rfl rfl (by decide) rfl (fun ls hl => ?_)
        refine lv_goto (tgt := 161) hx hb dX12_digest_183 (by decide) ?_
        exact ih (v1 + 1) thrown many line fewest h_177 V (lv_sub hl [1, 0] rfl) hw
  have B100 :  ∀ (n : Nat), ∀ {H : Heap} {locs : List Loc} {ls : Array Slot} (v1 : Int32) (thrown : Int32) (many : Int32) (line : Nat → Int32) (fewest : Nat → Int32) (h : Int64) (V : VW g A s.heap H locs (gX12 g a_this a_this_z a_this_saved a_this_text a_this_line a_this_aside a_this_read a_this_fewest thrown z saves saved length text many line aside isWord entries rdA fewest h)) (hl : lv_has ls 2 [(0, .ref a_this), (1, .int v1)]) (hw : wX12_digest_100 z saves length text P n v1 thrown many line fewest h), W p l e (kR 6 140 0 0) s m ([.ref a_this] : List Value).toArray below meth c H locs 0 0 Q (F0 m 100 ls []) := by
    intro n
    induction n with
    | zero => intro _ _ _ _ _ _ _ _ _ V hl hw; exact hw.elim
    | succ n ih =>
      intro H locs ls v1 thrown many line fewest h V hl hw
      refine lv_iload_n hx hb dX12_digest_100 rfl (lv_at hl 1 rfl) ?_
      refine lv_aload_n hx hb dX12_digest_101 rfl (lv_at hl 0 rfl) ?_
      refine kget F V 8 1 0 rfl rfl iX12_digest_X12 fX12_digest_7 (by decide) rfl rfl dX12_digest_102 ?_
      refine lv_iconst (v := 0) hx hb dX12_digest_105 (by decide) ?_
      refine kiald F V 1 rfl hw.1 dX12_digest_106 ?_
      have hw := hw.2
      refine lv_icmp_ge (tgt := 121) hx hb dX12_digest_107 (by decide) (fun c_107 => ?_) (fun c_107 => ?_)
      · have hw := hw.1 c_107
        refine lv_aload_n hx hb dX12_digest_121 rfl (lv_at hl 0 rfl) ?_
        refine lv_aload_n hx hb dX12_digest_122 rfl (lv_at hl 0 rfl) ?_
        refine kVi1 (rest := [.ref a_this]) F hl V [0, 1, 2, 3, 4, 5, 6, 7] [] [0, 1, 2, 3, 4, 5, 6, 7] (fun fewest_123 => (gX12 g a_this a_this_z a_this_saved a_this_text a_this_line a_this_aside a_this_read a_this_fewest thrown z saves saved length text many line aside isWord entries rdA fewest_123 h)) a_this 8 0 rfl rfl (kX12_fewestNow l g a_this a_this_z a_this_saved a_this_text a_this_line a_this_aside a_this_read a_this_fewest thrown z saves saved length text many line aside isWord entries rdA fewest h _ hw) gX12_digest_X12_fewestNow rfl 0 rfl hdX12_fewestNow rfl rfl (fun _ => rfl) rfl rfl rfl (by decide) ⟨Nat.le_of_ble_eq_true rfl, Nat.le_of_ble_eq_true rfl⟩ ⟨Nat.le_of_ble_eq_true rfl, Nat.le_of_ble_eq_true rfl⟩ (Nat.le_of_ble_eq_true rfl) rfl dX12_digest_123 (fun r_123 fewest_123 H locs hw V => ?_)
        refine lv_i2l hx hb dX12_digest_126 rfl ?_
        refine kVv1 (rest := []) F hl V [0, 1, 2, 3, 4, 5, 6, 7] [] [0, 1, 2, 3, 4, 5, 6, 7] (fun h_127 => (gX12 g a_this a_this_z a_this_saved a_this_text a_this_line a_this_aside a_this_read a_this_fewest thrown z saves saved length text many line aside isWord entries rdA fewest_123 h_127)) a_this 8 0 rfl rfl (kX12_mix l g a_this a_this_z a_this_saved a_this_text a_this_line a_this_aside a_this_read a_this_fewest thrown z saves saved length text many line aside isWord entries rdA fewest_123 h (r_123.toInt64) _ hw) gX12_digest_X12_mix rfl 1 rfl hdX12_mix rfl rfl (fun _ => rfl) rfl rfl rfl (by decide) ⟨Nat.le_of_ble_eq_true rfl, Nat.le_of_ble_eq_true rfl⟩ ⟨Nat.le_of_ble_eq_true rfl, Nat.le_of_ble_eq_true rfl⟩ (Nat.le_of_ble_eq_true rfl) rfl dX12_digest_127 (fun h_127 H locs hw V => ?_)
        refine lv_aload_n hx hb dX12_digest_130 rfl (lv_at hl 0 rfl) ?_
        refine lv_aload_n hx hb dX12_digest_131 rfl (lv_at hl 0 rfl) ?_
        refine kVi3 (rest := [.ref a_this]) F hl V [0, 1, 2, 3, 4, 5, 6, 7] [] [0, 1, 2, 3, 4, 5, 6, 7] (fun many_132 line_132 fewest_132 => (gX12 g a_this a_this_z a_this_saved a_this_text a_this_line a_this_aside a_this_read a_this_fewest thrown z saves saved length text many_132 line_132 aside isWord entries rdA fewest_132 h_127)) a_this 8 0 rfl rfl (kX12_backNow l g a_this a_this_z a_this_saved a_this_text a_this_line a_this_aside a_this_read a_this_fewest thrown z saves saved length text many line aside isWord entries rdA fewest_123 h_127 _ hw) gX12_digest_X12_backNow rfl 0 rfl hdX12_backNow rfl rfl (fun _ _ _ => rfl) rfl rfl rfl (by decide) ⟨Nat.le_of_ble_eq_true rfl, Nat.le_of_ble_eq_true rfl⟩ ⟨Nat.le_of_ble_eq_true rfl, Nat.le_of_ble_eq_true rfl⟩ (Nat.le_of_ble_eq_true rfl) rfl dX12_digest_132 (fun r_132 many_132 line_132 fewest_132 H locs hw V => ?_)
        refine lv_i2l hx hb dX12_digest_135 rfl ?_
        refine kVv1 (rest := []) F hl V [0, 1, 2, 3, 4, 5, 6, 7] [] [0, 1, 2, 3, 4, 5, 6, 7] (fun h_136 => (gX12 g a_this a_this_z a_this_saved a_this_text a_this_line a_this_aside a_this_read a_this_fewest thrown z saves saved length text many_132 line_132 aside isWord entries rdA fewest_132 h_136)) a_this 8 0 rfl rfl (kX12_mix l g a_this a_this_z a_this_saved a_this_text a_this_line a_this_aside a_this_read a_this_fewest thrown z saves saved length text many_132 line_132 aside isWord entries rdA fewest_132 h_127 (r_132.toInt64) _ hw) gX12_digest_X12_mix rfl 1 rfl hdX12_mix rfl rfl (fun _ => rfl) rfl rfl rfl (by decide) ⟨Nat.le_of_ble_eq_true rfl, Nat.le_of_ble_eq_true rfl⟩ ⟨Nat.le_of_ble_eq_true rfl, Nat.le_of_ble_eq_true rfl⟩ (Nat.le_of_ble_eq_true rfl) rfl dX12_digest_136 (fun h_136 H locs hw V => ?_)
        refine lv_aload_n hx hb dX12_digest_139 rfl (lv_at hl 0 rfl) ?_
        refine lv_aload_n hx hb dX12_digest_140 rfl (lv_at hl 0 rfl) ?_
        refine kVd0 (rest := [.ref a_this]) F hl V [0, 1, 2, 3, 4, 5, 6, 7] [] [0, 1, 2, 3, 4, 5, 6, 7] (gX12 g a_this a_this_z a_this_saved a_this_text a_this_line a_this_aside a_this_read a_this_fewest thrown z saves saved length text many_132 line_132 aside isWord entries rdA fewest_132 h_136) a_this 8 0 rfl rfl (kX12_rateNow l g a_this a_this_z a_this_saved a_this_text a_this_line a_this_aside a_this_read a_this_fewest thrown z saves saved length text many_132 line_132 aside isWord entries rdA fewest_132 h_136 _ hw) gX12_digest_X12_rateNow rfl 0 rfl hdX12_rateNow rfl rfl (fun _ => rfl) rfl rfl rfl (by decide) ⟨Nat.le_of_ble_eq_true rfl, Nat.le_of_ble_eq_true rfl⟩ ⟨Nat.le_of_ble_eq_true rfl, Nat.le_of_ble_eq_true rfl⟩ (Nat.le_of_ble_eq_true rfl) rfl dX12_digest_141 (fun r_141 H locs hw V => ?_)
        refine kSl0n (rest := [.ref a_this]) F hl V (kJxe99ae_doubleToLongBits_ccdee l g r_141 _ hw) gX12_digest_Jxe99ae_doubleToLongBits_ccdee rfl 1 rfl hdJxe99ae_doubleToLongBits_ccdee ⟨Nat.le_of_ble_eq_true rfl, Nat.le_of_ble_eq_true rfl⟩ ⟨Nat.le_of_ble_eq_true rfl, Nat.le_of_ble_eq_true rfl⟩ (Nat.le_of_ble_eq_true rfl) rfl dX12_digest_144 (fun r_144 H locs hw V => ?_)
        refine kVv1 (rest := []) F hl V [0, 1, 2, 3, 4, 5, 6, 7] [] [0, 1, 2, 3, 4, 5, 6, 7] (fun h_147 => (gX12 g a_this a_this_z a_this_saved a_this_text a_this_line a_this_aside a_this_read a_this_fewest thrown z saves saved length text many_132 line_132 aside isWord entries rdA fewest_132 h_147)) a_this 8 0 rfl rfl (kX12_mix l g a_this a_this_z a_this_saved a_this_text a_this_line a_this_aside a_this_read a_this_fewest thrown z saves saved length text many_132 line_132 aside isWord entries rdA fewest_132 h_136 r_144 _ hw) gX12_digest_X12_mix rfl 1 rfl hdX12_mix rfl rfl (fun _ => rfl) rfl rfl rfl (by decide) ⟨Nat.le_of_ble_eq_true rfl, Nat.le_of_ble_eq_true rfl⟩ ⟨Nat.le_of_ble_eq_true rfl, Nat.le_of_ble_eq_true rfl⟩ (Nat.le_of_ble_eq_true rfl) rfl dX12_digest_147 (fun h_147 H locs hw V => ?_)
        refine lv_aload_n hx hb dX12_digest_150 rfl (lv_at hl 0 rfl) ?_
        refine lv_aload_n hx hb dX12_digest_151 rfl (lv_at hl 0 rfl) ?_
        refine kget F V 8 4 0 rfl rfl iX12_digest_X12 fX12_digest_121 (by decide) rfl rfl dX12_digest_152 ?_
        refine lv_i2l hx hb dX12_digest_155 rfl ?_
        refine kVv1 (rest := []) F hl V [0, 1, 2, 3, 4, 5, 6, 7] [] [0, 1, 2, 3, 4, 5, 6, 7] (fun h_156 => (gX12 g a_this a_this_z a_this_saved a_this_text a_this_line a_this_aside a_this_read a_this_fewest thrown z saves saved length text many_132 line_132 aside isWord entries rdA fewest_132 h_156)) a_this 8 0 rfl rfl (kX12_mix l g a_this a_this_z a_this_saved a_this_text a_this_line a_this_aside a_this_read a_this_fewest thrown z saves saved length text many_132 line_132 aside isWord entries rdA fewest_132 h_147 (length.toInt64) _ hw) gX12_digest_X12_mix rfl 1 rfl hdX12_mix rfl rfl (fun _ => rfl) rfl rfl rfl (by decide) ⟨Nat.le_of_ble_eq_true rfl, Nat.le_of_ble_eq_true rfl⟩ ⟨Nat.le_of_ble_eq_true rfl, Nat.le_of_ble_eq_true rfl⟩ (Nat.le_of_ble_eq_true rfl) rfl dX12_digest_156 (fun h_156 H locs hw V => ?_)
        refine lv_iconst (v := 0) hx hb dX12_digest_159 (by decide) ?_
        refine lv_istore_n (lv' := [(1, .int 0), (0, .ref a_this)]) hx hb dX12_digest_160 rfl hl (by decide) rfl (fun ls hl => ?_)
        obtain ⟨n_161, hw⟩ := hw
        exact B161  n_161 0 thrown many_132 line_132 fewest_132 h_156 V (lv_sub hl [1, 0] rfl) hw
      · have hw := hw.2 c_107
        refine lv_aload_n hx hb dX12_digest_110 rfl (lv_at hl 0 rfl) ?_
        refine lv_iload_n hx hb dX12_digest_111 rfl (lv_at hl 1 rfl) ?_
        refine kVv1 (rest := []) F hl V [0, 1, 2, 3, 4, 5, 6, 7] [] [0, 1, 2, 3, 4, 5, 6, 7] (fun h_112 => (gX12 g a_this a_this_z a_this_saved a_this_text a_this_line a_this_aside a_this_read a_this_fewest thrown z saves saved length text many line aside isWord entries rdA fewest h_112)) a_this 8 0 rfl rfl (kX12_mixEntry l g a_this a_this_z a_this_saved a_this_text a_this_line a_this_aside a_this_read a_this_fewest thrown z saves saved length text many line aside isWord entries rdA fewest h v1 _ hw) gX12_digest_X12_mixEntry rfl 1 rfl hdX12_mixEntry rfl rfl (fun _ => rfl) rfl rfl rfl (by decide) ⟨Nat.le_of_ble_eq_true rfl, Nat.le_of_ble_eq_true rfl⟩ ⟨Nat.le_of_ble_eq_true rfl, Nat.le_of_ble_eq_true rfl⟩ (Nat.le_of_ble_eq_true rfl) rfl dX12_digest_112 (fun h_112 H locs hw V => ?_)
        refine lv_iinc (v := v1 + 1) (lv' := [(1, .int (v1 + 1)), (0, .ref a_this)]) hx hb dX12_digest_115 hl (k := 1) rfl rfl (by decide) rfl (fun ls hl => ?_)
        refine lv_goto (tgt := 100) hx hb dX12_digest_118 (by decide) ?_
        exact ih (v1 + 1) thrown many line fewest h_112 V (lv_sub hl [1, 0] rfl) hw
  have B75 :  ∀ (n : Nat), ∀ {H : Heap} {locs : List Loc} {ls : Array Slot} (v1 : Int32) (thrown : Int32) (many : Int32) (line : Nat → Int32) (fewest : Nat → Int32) (h : Int64) (V : VW g A s.heap H locs (gX12 g a_this a_this_z a_this_saved a_this_text a_this_line a_this_aside a_this_read a_this_fewest thrown z saves saved length text many line aside isWord entries rdA fewest h)) (hl : lv_has ls 2 [(0, .ref a_this), (1, .int v1)]) (hw : wX12_digest_75 z saves length text P n v1 thrown many line fewest h), W p l e (kR 6 140 0 0) s m ([.ref a_this] : List Value).toArray below meth c H locs 0 0 Q (F0 m 75 ls []) := by
    intro n
    induction n with
    | zero => intro _ _ _ _ _ _ _ _ _ V hl hw; exact hw.elim
    | succ n ih =>
      intro H locs ls v1 thrown many line fewest h V hl hw
      refine lv_iload_n hx hb dX12_digest_75 rfl (lv_at hl 1 rfl) ?_
      refine lv_aload_n hx hb dX12_digest_76 rfl (lv_at hl 0 rfl) ?_
      refine kget F V 8 1 0 rfl rfl iX12_digest_X12 fX12_digest_7 (by decide) rfl rfl dX12_digest_77 ?_
      refine lv_sipush (v := 399) hx hb dX12_digest_80 (by decide) ?_
      refine kiald F V 1 rfl hw.1 dX12_digest_83 ?_
      have hw := hw.2
      refine lv_icmp_ge (tgt := 98) hx hb dX12_digest_84 (by decide) (fun c_84 => ?_) (fun c_84 => ?_)
      · have hw := hw.1 c_84
        refine lv_iconst (v := 0) hx hb dX12_digest_98 (by decide) ?_
        refine lv_istore_n (lv' := [(1, .int 0), (0, .ref a_this)]) hx hb dX12_digest_99 rfl hl (by decide) rfl (fun ls hl => ?_)
        obtain ⟨n_100, hw⟩ := hw
        exact B100  n_100 0 thrown many line fewest h V (lv_sub hl [1, 0] rfl) hw
      · have hw := hw.2 c_84
        refine lv_aload_n hx hb dX12_digest_87 rfl (lv_at hl 0 rfl) ?_
        refine lv_iload_n hx hb dX12_digest_88 rfl (lv_at hl 1 rfl) ?_
        refine kVv1 (rest := []) F hl V [0, 1, 2, 3, 4, 5, 6, 7] [] [0, 1, 2, 3, 4, 5, 6, 7] (fun h_89 => (gX12 g a_this a_this_z a_this_saved a_this_text a_this_line a_this_aside a_this_read a_this_fewest thrown z saves saved length text many line aside isWord entries rdA fewest h_89)) a_this 8 0 rfl rfl (kX12_mixItem l g a_this a_this_z a_this_saved a_this_text a_this_line a_this_aside a_this_read a_this_fewest thrown z saves saved length text many line aside isWord entries rdA fewest h v1 _ hw) gX12_digest_X12_mixItem rfl 1 rfl hdX12_mixItem rfl rfl (fun _ => rfl) rfl rfl rfl (by decide) ⟨Nat.le_of_ble_eq_true rfl, Nat.le_of_ble_eq_true rfl⟩ ⟨Nat.le_of_ble_eq_true rfl, Nat.le_of_ble_eq_true rfl⟩ (Nat.le_of_ble_eq_true rfl) rfl dX12_digest_89 (fun h_89 H locs hw V => ?_)
        refine lv_iinc (v := v1 + 1) (lv' := [(1, .int (v1 + 1)), (0, .ref a_this)]) hx hb dX12_digest_92 hl (k := 1) rfl rfl (by decide) rfl (fun ls hl => ?_)
        refine lv_goto (tgt := 75) hx hb dX12_digest_95 (by decide) ?_
        exact ih (v1 + 1) thrown many line fewest h_89 V (lv_sub hl [1, 0] rfl) hw
  have B38 :  ∀ (n : Nat), ∀ {H : Heap} {locs : List Loc} {ls : Array Slot} (v1 : Int32) (thrown : Int32) (many : Int32) (line : Nat → Int32) (fewest : Nat → Int32) (h : Int64) (V : VW g A s.heap H locs (gX12 g a_this a_this_z a_this_saved a_this_text a_this_line a_this_aside a_this_read a_this_fewest thrown z saves saved length text many line aside isWord entries rdA fewest h)) (hl : lv_has ls 2 [(0, .ref a_this), (1, .int v1)]) (hw : wX12_digest_38 z saves length text P n v1 thrown many line fewest h), W p l e (kR 6 140 0 0) s m ([.ref a_this] : List Value).toArray below meth c H locs 0 0 Q (F0 m 38 ls []) := by
    intro n
    induction n with
    | zero => intro _ _ _ _ _ _ _ _ _ V hl hw; exact hw.elim
    | succ n ih =>
      intro H locs ls v1 thrown many line fewest h V hl hw
      refine lv_iload_n hx hb dX12_digest_38 rfl (lv_at hl 1 rfl) ?_
      refine lv_iconst (v := 3) hx hb dX12_digest_39 (by decide) ?_
      refine lv_aload_n hx hb dX12_digest_40 rfl (lv_at hl 0 rfl) ?_
      refine kget F V 8 1 0 rfl rfl iX12_digest_X12 fX12_digest_7 (by decide) rfl rfl dX12_digest_41 ?_
      refine lv_sipush (v := 337) hx hb dX12_digest_44 (by decide) ?_
      refine kiald F V 1 rfl hw.1 dX12_digest_47 ?_
      have hw := hw.2
      refine lv_imul hx hb dX12_digest_48 ?_
      refine lv_icmp_ge (tgt := 73) hx hb dX12_digest_49 (by decide) (fun c_49 => ?_) (fun c_49 => ?_)
      · have hw := hw.1 c_49
        refine lv_iconst (v := 0) hx hb dX12_digest_73 (by decide) ?_
        refine lv_istore_n (lv' := [(1, .int 0), (0, .ref a_this)]) hx hb dX12_digest_74 rfl hl (by decide) rfl (fun ls hl => ?_)
        obtain ⟨n_75, hw⟩ := hw
        exact B75  n_75 0 thrown many line fewest h V (lv_sub hl [1, 0] rfl) hw
      · have hw := hw.2 c_49
        refine lv_aload_n hx hb dX12_digest_52 rfl (lv_at hl 0 rfl) ?_
        refine lv_aload_n hx hb dX12_digest_53 rfl (lv_at hl 0 rfl) ?_
        refine lv_iload_n hx hb dX12_digest_54 rfl (lv_at hl 1 rfl) ?_
        refine lv_iconst (v := 3) hx hb dX12_digest_55 (by decide) ?_
        refine lv_idiv hx hb dX12_digest_56 (by decide) ?_
        refine lv_iload_n hx hb dX12_digest_57 rfl (lv_at hl 1 rfl) ?_
        refine lv_iconst (v := 3) hx hb dX12_digest_58 (by decide) ?_
        refine lv_irem hx hb dX12_digest_59 (by decide) ?_
        refine kVi0 (rest := [.ref a_this]) F hl V [0, 1, 2, 3, 4, 5, 6, 7] [] [0, 1, 2, 3, 4, 5, 6, 7] (gX12 g a_this a_this_z a_this_saved a_this_text a_this_line a_this_aside a_this_read a_this_fewest thrown z saves saved length text many line aside isWord entries rdA fewest h) a_this 8 0 rfl rfl (kX12_strokeNow l g a_this a_this_z a_this_saved a_this_text a_this_line a_this_aside a_this_read a_this_fewest thrown z saves saved length text many line aside isWord entries rdA fewest h (v1 / 3) (v1 - v1 / 3 * 3) _ hw) gX12_digest_X12_strokeNow rfl 2 rfl hdX12_strokeNow rfl rfl (fun _ => rfl) rfl rfl rfl (by decide) ⟨Nat.le_of_ble_eq_true rfl, Nat.le_of_ble_eq_true rfl⟩ ⟨Nat.le_of_ble_eq_true rfl, Nat.le_of_ble_eq_true rfl⟩ (Nat.le_of_ble_eq_true rfl) rfl dX12_digest_60 (fun r_60 H locs hw V => ?_)
        refine lv_i2l hx hb dX12_digest_63 rfl ?_
        refine kVv1 (rest := []) F hl V [0, 1, 2, 3, 4, 5, 6, 7] [] [0, 1, 2, 3, 4, 5, 6, 7] (fun h_64 => (gX12 g a_this a_this_z a_this_saved a_this_text a_this_line a_this_aside a_this_read a_this_fewest thrown z saves saved length text many line aside isWord entries rdA fewest h_64)) a_this 8 0 rfl rfl (kX12_mix l g a_this a_this_z a_this_saved a_this_text a_this_line a_this_aside a_this_read a_this_fewest thrown z saves saved length text many line aside isWord entries rdA fewest h (r_60.toInt64) _ hw) gX12_digest_X12_mix rfl 1 rfl hdX12_mix rfl rfl (fun _ => rfl) rfl rfl rfl (by decide) ⟨Nat.le_of_ble_eq_true rfl, Nat.le_of_ble_eq_true rfl⟩ ⟨Nat.le_of_ble_eq_true rfl, Nat.le_of_ble_eq_true rfl⟩ (Nat.le_of_ble_eq_true rfl) rfl dX12_digest_64 (fun h_64 H locs hw V => ?_)
        refine lv_iinc (v := v1 + 1) (lv' := [(1, .int (v1 + 1)), (0, .ref a_this)]) hx hb dX12_digest_67 hl (k := 1) rfl rfl (by decide) rfl (fun ls hl => ?_)
        refine lv_goto (tgt := 38) hx hb dX12_digest_70 (by decide) ?_
        exact ih (v1 + 1) thrown many line fewest h_64 V (lv_sub hl [1, 0] rfl) hw
  have B14 :  ∀ (n : Nat), ∀ {H : Heap} {locs : List Loc} {ls : Array Slot} (v1 : Int32) (thrown : Int32) (many : Int32) (line : Nat → Int32) (fewest : Nat → Int32) (h : Int64) (V : VW g A s.heap H locs (gX12 g a_this a_this_z a_this_saved a_this_text a_this_line a_this_aside a_this_read a_this_fewest thrown z saves saved length text many line aside isWord entries rdA fewest h)) (hl : lv_has ls 2 [(0, .ref a_this), (1, .int v1)]) (hw : wX12_digest_14 z saves length text P n v1 thrown many line fewest h), W p l e (kR 6 140 0 0) s m ([.ref a_this] : List Value).toArray below meth c H locs 0 0 Q (F0 m 14 ls []) := by
    intro n
    induction n with
    | zero => intro _ _ _ _ _ _ _ _ _ V hl hw; exact hw.elim
    | succ n ih =>
      intro H locs ls v1 thrown many line fewest h V hl hw
      refine lv_iload_n hx hb dX12_digest_14 rfl (lv_at hl 1 rfl) ?_
      refine lv_bipush (v := 10) hx hb dX12_digest_15 (by decide) ?_
      refine lv_icmp_ge (tgt := 36) hx hb dX12_digest_17 (by decide) (fun c_17 => ?_) (fun c_17 => ?_)
      · have hw := hw.1 c_17
        refine lv_iconst (v := 0) hx hb dX12_digest_36 (by decide) ?_
        refine lv_istore_n (lv' := [(1, .int 0), (0, .ref a_this)]) hx hb dX12_digest_37 rfl hl (by decide) rfl (fun ls hl => ?_)
        obtain ⟨n_38, hw⟩ := hw
        exact B38  n_38 0 thrown many line fewest h V (lv_sub hl [1, 0] rfl) hw
      · have hw := hw.2 c_17
        refine lv_aload_n hx hb dX12_digest_20 rfl (lv_at hl 0 rfl) ?_
        refine lv_aload_n hx hb dX12_digest_21 rfl (lv_at hl 0 rfl) ?_
        refine lv_iload_n hx hb dX12_digest_22 rfl (lv_at hl 1 rfl) ?_
        refine kVi0 (rest := [.ref a_this]) F hl V [0, 1, 2, 3, 4, 5, 6, 7] [] [0, 1, 2, 3, 4, 5, 6, 7] (gX12 g a_this a_this_z a_this_saved a_this_text a_this_line a_this_aside a_this_read a_this_fewest thrown z saves saved length text many line aside isWord entries rdA fewest h) a_this 8 0 rfl rfl (kX12_counted l g a_this a_this_z a_this_saved a_this_text a_this_line a_this_aside a_this_read a_this_fewest thrown z saves saved length text many line aside isWord entries rdA fewest h v1 _ hw) gX12_digest_X12_counted rfl 1 rfl hdX12_counted rfl rfl (fun _ => rfl) rfl rfl rfl (by decide) ⟨Nat.le_of_ble_eq_true rfl, Nat.le_of_ble_eq_true rfl⟩ ⟨Nat.le_of_ble_eq_true rfl, Nat.le_of_ble_eq_true rfl⟩ (Nat.le_of_ble_eq_true rfl) rfl dX12_digest_23 (fun r_23 H locs hw V => ?_)
        refine lv_i2l hx hb dX12_digest_26 rfl ?_
        refine kVv1 (rest := []) F hl V [0, 1, 2, 3, 4, 5, 6, 7] [] [0, 1, 2, 3, 4, 5, 6, 7] (fun h_27 => (gX12 g a_this a_this_z a_this_saved a_this_text a_this_line a_this_aside a_this_read a_this_fewest thrown z saves saved length text many line aside isWord entries rdA fewest h_27)) a_this 8 0 rfl rfl (kX12_mix l g a_this a_this_z a_this_saved a_this_text a_this_line a_this_aside a_this_read a_this_fewest thrown z saves saved length text many line aside isWord entries rdA fewest h (r_23.toInt64) _ hw) gX12_digest_X12_mix rfl 1 rfl hdX12_mix rfl rfl (fun _ => rfl) rfl rfl rfl (by decide) ⟨Nat.le_of_ble_eq_true rfl, Nat.le_of_ble_eq_true rfl⟩ ⟨Nat.le_of_ble_eq_true rfl, Nat.le_of_ble_eq_true rfl⟩ (Nat.le_of_ble_eq_true rfl) rfl dX12_digest_27 (fun h_27 H locs hw V => ?_)
        refine lv_iinc (v := v1 + 1) (lv' := [(1, .int (v1 + 1)), (0, .ref a_this)]) hx hb dX12_digest_30 hl (k := 1) rfl rfl (by decide) rfl (fun ls hl => ?_)
        refine lv_goto (tgt := 14) hx hb dX12_digest_33 (by decide) ?_
        exact ih (v1 + 1) thrown many line fewest h_27 V (lv_sub hl [1, 0] rfl) hw
  refine lv_aload_n hx hb dX12_digest_0 rfl (lv_at hl 0 rfl) ?_
  refine lv_iconst (v := 0) hx hb dX12_digest_1 (by decide) ?_
  refine kput F V 8 0 0 tyX12_ok nmX12 rfl rfl iX12_digest_X12 fX12_digest_31 (by decide) rfl rfl rfl rfl (Nat.le_of_ble_eq_true rfl) dX12_digest_2 (fun H locs V => ?_)
  have V : VW g A s.heap H locs (gX12 g a_this a_this_z a_this_saved a_this_text a_this_line a_this_aside a_this_read a_this_fewest 0 z saves saved length text many line aside isWord entries rdA fewest h) := V
  refine lv_aload_n hx hb dX12_digest_5 rfl (lv_at hl 0 rfl) ?_
  refine lv_ldc2 (v := 2221) hx hb F.ow (F.ts (.constantLong RX12 227 2221) (by decide +kernel)) dX12_digest_6 ?_
  refine kput F V 8 13 0 tyX12_ok nmX12 rfl rfl iX12_digest_X12 fX12_digest_219 (by decide) rfl rfl rfl rfl (Nat.le_of_ble_eq_true rfl) dX12_digest_9 (fun H locs V => ?_)
  have V : VW g A s.heap H locs (gX12 g a_this a_this_z a_this_saved a_this_text a_this_line a_this_aside a_this_read a_this_fewest 0 z saves saved length text many line aside isWord entries rdA fewest 2221) := V
  refine lv_iconst (v := 0) hx hb dX12_digest_12 (by decide) ?_
  refine lv_istore_n (lv' := [(1, .int 0), (0, .ref a_this)]) hx hb dX12_digest_13 rfl hl (by decide) rfl (fun ls hl => ?_)
  obtain ⟨n_14, hw⟩ := hw
  exact B14  n_14 0 0 many line fewest 2221 V (lv_sub hl [1, 0] rfl) hw
