theorem hdX0_init : yX0_init.cls = RX0 ∧ yX0_init.cls ≠ "java/lang/invoke/MethodHandle" ∧ yX0_init.cls ≠ "java/lang/invoke/VarHandle" ∧ (parseMethodDescriptor yX0_init.desc).map (fun d => d.parameters.length) = some 0 := by decide +kernel
theorem fX0_init_9 : Cond.fieldLink RX0 9 RX0 "codes" "[I" ∈ wsX0_init := by decide +kernel
theorem iX0_init_X0 : ∀ w ∈ u_ws RX0 TX0 2, w ∈ wsX0_init := by decide +kernel
theorem fX0_init_15 : Cond.fieldLink RX0 15 RX0 "length" "I" ∈ wsX0_init := by decide +kernel
set_option maxHeartbeats 4000000 in
set_option maxRecDepth 100000 in
theorem kX0_init (l : Launch) (g : kT) (a_this : Nat) : Kv1 l g yX0_init wsX0_init 1 30 1 60 [.ref a_this] [(a_this, .inr (0, [.null, .int 0]))] (fun (_ : Nat) => True) (fun (z0 : Nat) => ([(a_this, .inr (0, [.ref z0, .int 0]))] ++ [(z0, .inl (g.2.1, 60, .inl (fun _ => 0)))])) := by
  refine Kv1.mk (cc := cX0_init) (nL := 1) (by decide +kernel) rfl (Nat.le_of_ble_eq_true rfl) ?_
  intro p e s m below meth c A Q ls F hl V ret hn0
  have hx := F.x
  have hb := F.b
  have hl : lv_has ls 1 [(0, .ref a_this)] := hl
  refine lv_aload_n hx hb dX0_init_0 rfl (lv_at hl 0 rfl) ?_
  refine kobj F hl.1 (by decide +kernel) (by decide +kernel) (by decide +kernel) dX0_init_1 (Nat.le_of_ble_eq_true rfl) (Nat.le_of_ble_eq_true rfl) ?_
  refine lv_aload_n hx hb dX0_init_4 rfl (lv_at hl 0 rfl) ?_
  refine lv_bipush (v := 60) hx hb dX0_init_5 (by decide) ?_
  refine knewi F V (by decide +kernel) 60 (by decide) (by decide) (Nat.le_of_ble_eq_true rfl) (Nat.le_of_ble_eq_true rfl) (Nat.le_of_ble_eq_true rfl) dX0_init_7 (fun q7 H V => ?_)
  have V : VW g A s.heap H _ ([(a_this, .inr (0, [.null, .int 0]))] ++ [(q7, .inl (g.2.1, 60, .inl (fun _ => 0)))]) := V
  refine kputF F hn0 V 0 0 0 tyX0_ok nmX0 rfl rfl iX0_init_X0 fX0_init_9 (by decide) rfl rfl rfl rfl (Nat.le_of_ble_eq_true rfl) dX0_init_9 (fun H locs V => ?_)
  have V : VW g A s.heap H locs ([(a_this, .inr (0, [.ref q7, .int 0]))] ++ [(q7, .inl (g.2.1, 60, .inl (fun _ => 0)))]) := V
  refine lv_aload_n hx hb dX0_init_12 rfl (lv_at hl 0 rfl) ?_
  refine lv_iconst (v := 0) hx hb dX0_init_13 (by decide) ?_
  refine kput F V 0 1 0 tyX0_ok nmX0 rfl rfl iX0_init_X0 fX0_init_15 (by decide) rfl rfl rfl rfl (Nat.le_of_ble_eq_true rfl) dX0_init_14 (fun H locs V => ?_)
  have V : VW g A s.heap H locs ([(a_this, .inr (0, [.ref q7, .int 0]))] ++ [(q7, .inl (g.2.1, 60, .inl (fun _ => 0)))]) := V
  exact ret _ _ _ _ _ dX0_init_17 V trivial
theorem hdX1_init : yX1_init.cls = RX1 ∧ yX1_init.cls ≠ "java/lang/invoke/MethodHandle" ∧ yX1_init.cls ≠ "java/lang/invoke/VarHandle" ∧ (parseMethodDescriptor yX1_init.desc).map (fun d => d.parameters.length) = some 0 := by decide +kernel
theorem fX1_init_9 : Cond.fieldLink RX1 9 RX1 "outlines" "[J" ∈ wsX1_init := by decide +kernel
theorem iX1_init_X1 : ∀ w ∈ u_ws RX1 TX1 3, w ∈ wsX1_init := by decide +kernel
theorem fX1_init_15 : Cond.fieldLink RX1 15 RX1 "words" "[J" ∈ wsX1_init := by decide +kernel
theorem fX1_init_18 : Cond.fieldLink RX1 18 RX1 "size" "I" ∈ wsX1_init := by decide +kernel
set_option maxHeartbeats 4000000 in
set_option maxRecDepth 100000 in
theorem kX1_init (l : Launch) (g : kT) (a_this : Nat) : Kv2 l g yX1_init wsX1_init 1 30 2 48 [.ref a_this] [(a_this, .inr (1, [.null, .null, .int 0]))] (fun (_ : Nat) (_ : Nat) => True) (fun (z0 : Nat) (z1 : Nat) => (([(a_this, .inr (1, [.ref z0, .ref z1, .int 0]))] ++ [(z0, .inl (g.2.2.1, 24, .inr (.inl (fun _ => 0))))]) ++ [(z1, .inl (g.2.2.1, 24, .inr (.inl (fun _ => 0))))])) := by
  refine Kv2.mk (cc := cX1_init) (nL := 1) (by decide +kernel) rfl (Nat.le_of_ble_eq_true rfl) ?_
  intro p e s m below meth c A Q ls F hl V ret hn0
  have hx := F.x
  have hb := F.b
  have hl : lv_has ls 1 [(0, .ref a_this)] := hl
  refine lv_aload_n hx hb dX1_init_0 rfl (lv_at hl 0 rfl) ?_
  refine kobj F hl.1 (by decide +kernel) (by decide +kernel) (by decide +kernel) dX1_init_1 (Nat.le_of_ble_eq_true rfl) (Nat.le_of_ble_eq_true rfl) ?_
  refine lv_aload_n hx hb dX1_init_4 rfl (lv_at hl 0 rfl) ?_
  refine lv_bipush (v := 24) hx hb dX1_init_5 (by decide) ?_
  refine knewl F V (by decide +kernel) 24 (by decide) (by decide) (Nat.le_of_ble_eq_true rfl) (Nat.le_of_ble_eq_true rfl) (Nat.le_of_ble_eq_true rfl) dX1_init_7 (fun q7 H V => ?_)
  have V : VW g A s.heap H _ ([(a_this, .inr (1, [.null, .null, .int 0]))] ++ [(q7, .inl (g.2.2.1, 24, .inr (.inl (fun _ => 0))))]) := V
  refine kputF F hn0 V 1 0 0 tyX1_ok nmX1 rfl rfl iX1_init_X1 fX1_init_9 (by decide) rfl rfl rfl rfl (Nat.le_of_ble_eq_true rfl) dX1_init_9 (fun H locs V => ?_)
  have V : VW g A s.heap H locs ([(a_this, .inr (1, [.ref q7, .null, .int 0]))] ++ [(q7, .inl (g.2.2.1, 24, .inr (.inl (fun _ => 0))))]) := V
  refine lv_aload_n hx hb dX1_init_12 rfl (lv_at hl 0 rfl) ?_
  refine lv_bipush (v := 24) hx hb dX1_init_13 (by decide) ?_
  refine knewl F V (by decide +kernel) 24 (by decide) (by decide) (Nat.le_of_ble_eq_true rfl) (Nat.le_of_ble_eq_true rfl) (Nat.le_of_ble_eq_true rfl) dX1_init_15 (fun q15 H V => ?_)
  have V : VW g A s.heap H _ (([(a_this, .inr (1, [.ref q7, .null, .int 0]))] ++ [(q7, .inl (g.2.2.1, 24, .inr (.inl (fun _ => 0))))]) ++ [(q15, .inl (g.2.2.1, 24, .inr (.inl (fun _ => 0))))]) := V
  refine kputF F hn0 V 1 1 0 tyX1_ok nmX1 rfl rfl iX1_init_X1 fX1_init_15 (by decide) rfl rfl rfl rfl (Nat.le_of_ble_eq_true rfl) dX1_init_17 (fun H locs V => ?_)
  have V : VW g A s.heap H locs (([(a_this, .inr (1, [.ref q7, .ref q15, .int 0]))] ++ [(q7, .inl (g.2.2.1, 24, .inr (.inl (fun _ => 0))))]) ++ [(q15, .inl (g.2.2.1, 24, .inr (.inl (fun _ => 0))))]) := V
  refine lv_aload_n hx hb dX1_init_20 rfl (lv_at hl 0 rfl) ?_
  refine lv_iconst (v := 0) hx hb dX1_init_21 (by decide) ?_
  refine kput F V 1 2 0 tyX1_ok nmX1 rfl rfl iX1_init_X1 fX1_init_18 (by decide) rfl rfl rfl rfl (Nat.le_of_ble_eq_true rfl) dX1_init_22 (fun H locs V => ?_)
  have V : VW g A s.heap H locs (([(a_this, .inr (1, [.ref q7, .ref q15, .int 0]))] ++ [(q7, .inl (g.2.2.1, 24, .inr (.inl (fun _ => 0))))]) ++ [(q15, .inl (g.2.2.1, 24, .inr (.inl (fun _ => 0))))]) := V
  exact ret _ _ _ _ _ _ dX1_init_25 V trivial
theorem hdX4_init : yX4_init.cls = RX4 ∧ yX4_init.cls ≠ "java/lang/invoke/MethodHandle" ∧ yX4_init.cls ≠ "java/lang/invoke/VarHandle" ∧ (parseMethodDescriptor yX4_init.desc).map (fun d => d.parameters.length) = some 0 := by decide +kernel
theorem fX4_init_9 : Cond.fieldLink RX4 9 RX4 "outline" "J" ∈ wsX4_init := by decide +kernel
theorem iX4_init_X4 : ∀ w ∈ u_ws RX4 TX4 6, w ∈ wsX4_init := by decide +kernel
theorem fX4_init_15 : Cond.fieldLink RX4 15 RX4 "strokes" "I" ∈ wsX4_init := by decide +kernel
theorem fX4_init_19 : Cond.fieldLink RX4 19 RX4 "keys" "I" ∈ wsX4_init := by decide +kernel
theorem fX4_init_22 : Cond.fieldLink RX4 22 RX4 "inWord" "Z" ∈ wsX4_init := by decide +kernel
theorem fX4_init_26 : Cond.fieldLink RX4 26 RX4 "word" "J" ∈ wsX4_init := by decide +kernel
theorem fX4_init_29 : Cond.fieldLink RX4 29 RX4 "letters" "I" ∈ wsX4_init := by decide +kernel
set_option maxHeartbeats 4000000 in
set_option maxRecDepth 100000 in
theorem kX4_init (l : Launch) (g : kT) (a_this : Nat) : Kv0 l g yX4_init wsX4_init 1 30 0 0 [.ref a_this] [(a_this, .inr (3, [.long 0, .int 0, .int 0, .int 0, .long 0, .int 0]))] True ([(a_this, .inr (3, [.long 0, .int 0, .int 0, .int 0, .long 0, .int 0]))]) := by
  refine Kv0.mk (cc := cX4_init) (nL := 1) (by decide +kernel) rfl (Nat.le_of_ble_eq_true rfl) ?_
  intro p e s m below meth c A Q ls F hl V ret hn0
  have hx := F.x
  have hb := F.b
  have hl : lv_has ls 1 [(0, .ref a_this)] := hl
  refine lv_aload_n hx hb dX4_init_0 rfl (lv_at hl 0 rfl) ?_
  refine kobj F hl.1 (by decide +kernel) (by decide +kernel) (by decide +kernel) dX4_init_1 (Nat.le_of_ble_eq_true rfl) (Nat.le_of_ble_eq_true rfl) ?_
  refine lv_aload_n hx hb dX4_init_4 rfl (lv_at hl 0 rfl) ?_
  refine lv_lconst (v := 0) hx hb dX4_init_5 (by decide) ?_
  refine kput F V 3 0 0 tyX4_ok nmX4 rfl rfl iX4_init_X4 fX4_init_9 (by decide) rfl rfl rfl rfl (Nat.le_of_ble_eq_true rfl) dX4_init_6 (fun H locs V => ?_)
  have V : VW g A s.heap H locs ([(a_this, .inr (3, [.long 0, .int 0, .int 0, .int 0, .long 0, .int 0]))]) := V
  refine lv_aload_n hx hb dX4_init_9 rfl (lv_at hl 0 rfl) ?_
  refine lv_iconst (v := 0) hx hb dX4_init_10 (by decide) ?_
  refine kput F V 3 1 0 tyX4_ok nmX4 rfl rfl iX4_init_X4 fX4_init_15 (by decide) rfl rfl rfl rfl (Nat.le_of_ble_eq_true rfl) dX4_init_11 (fun H locs V => ?_)
  have V : VW g A s.heap H locs ([(a_this, .inr (3, [.long 0, .int 0, .int 0, .int 0, .long 0, .int 0]))]) := V
  refine lv_aload_n hx hb dX4_init_14 rfl (lv_at hl 0 rfl) ?_
  refine lv_iconst (v := 0) hx hb dX4_init_15 (by decide) ?_
  refine kput F V 3 2 0 tyX4_ok nmX4 rfl rfl iX4_init_X4 fX4_init_19 (by decide) rfl rfl rfl rfl (Nat.le_of_ble_eq_true rfl) dX4_init_16 (fun H locs V => ?_)
  have V : VW g A s.heap H locs ([(a_this, .inr (3, [.long 0, .int 0, .int 0, .int 0, .long 0, .int 0]))]) := V
  refine lv_aload_n hx hb dX4_init_19 rfl (lv_at hl 0 rfl) ?_
  refine lv_iconst (v := 0) hx hb dX4_init_20 (by decide) ?_
  refine kput F V 3 3 0 tyX4_ok nmX4 rfl rfl iX4_init_X4 fX4_init_22 (by decide) rfl rfl rfl rfl (Nat.le_of_ble_eq_true rfl) dX4_init_21 (fun H locs V => ?_)
  have V : VW g A s.heap H locs ([(a_this, .inr (3, [.long 0, .int 0, .int 0, .int 0, .long 0, .int 0]))]) := V
  refine lv_aload_n hx hb dX4_init_24 rfl (lv_at hl 0 rfl) ?_
  refine lv_lconst (v := 0) hx hb dX4_init_25 (by decide) ?_
  refine kput F V 3 4 0 tyX4_ok nmX4 rfl rfl iX4_init_X4 fX4_init_26 (by decide) rfl rfl rfl rfl (Nat.le_of_ble_eq_true rfl) dX4_init_26 (fun H locs V => ?_)
  have V : VW g A s.heap H locs ([(a_this, .inr (3, [.long 0, .int 0, .int 0, .int 0, .long 0, .int 0]))]) := V
  refine lv_aload_n hx hb dX4_init_29 rfl (lv_at hl 0 rfl) ?_
  refine lv_iconst (v := 0) hx hb dX4_init_30 (by decide) ?_
  refine kput F V 3 5 0 tyX4_ok nmX4 rfl rfl iX4_init_X4 fX4_init_29 (by decide) rfl rfl rfl rfl (Nat.le_of_ble_eq_true rfl) dX4_init_31 (fun H locs V => ?_)
  have V : VW g A s.heap H locs ([(a_this, .inr (3, [.long 0, .int 0, .int 0, .int 0, .long 0, .int 0]))]) := V
  exact ret  _ _ _ _ dX4_init_34 V trivial
theorem hdX7_init : yX7_init.cls = RX7 ∧ yX7_init.cls ≠ "java/lang/invoke/MethodHandle" ∧ yX7_init.cls ≠ "java/lang/invoke/VarHandle" ∧ (parseMethodDescriptor yX7_init.desc).map (fun d => d.parameters.length) = some 0 := by decide +kernel
theorem fX7_init_11 : Cond.fieldLink RX7 11 RX7 "strokes" "[I" ∈ wsX7_init := by decide +kernel
theorem iX7_init_X7 : ∀ w ∈ u_ws RX7 TX7 9, w ∈ wsX7_init := by decide +kernel
theorem fX7_init_15 : Cond.fieldLink RX7 15 RX7 "firsts" "[I" ∈ wsX7_init := by decide +kernel
theorem fX7_init_18 : Cond.fieldLink RX7 18 RX7 "entries" "[I" ∈ wsX7_init := by decide +kernel
theorem fX7_init_21 : Cond.fieldLink RX7 21 RX7 "words" "[J" ∈ wsX7_init := by decide +kernel
theorem fX7_init_25 : Cond.fieldLink RX7 25 RX7 "strokeCount" "I" ∈ wsX7_init := by decide +kernel
theorem fX7_init_29 : Cond.fieldLink RX7 29 RX7 "itemCount" "I" ∈ wsX7_init := by decide +kernel
theorem fX7_init_32 : Cond.fieldLink RX7 32 RX7 "fixedCount" "I" ∈ wsX7_init := by decide +kernel
theorem fX7_init_35 : Cond.fieldLink RX7 35 RX7 "firstOpen" "I" ∈ wsX7_init := by decide +kernel
theorem fX7_init_38 : Cond.fieldLink RX7 38 RX7 "window" "I" ∈ wsX7_init := by decide +kernel
set_option maxHeartbeats 4000000 in
set_option maxRecDepth 100000 in
theorem kX7_init (l : Launch) (g : kT) (a_this : Nat) : Kv4 l g yX7_init wsX7_init 1 30 4 244 [.ref a_this] [(a_this, .inr (4, [.null, .null, .null, .null, .int 0, .int 0, .int 0, .int 0, .int 0]))] (fun (_ : Nat) (_ : Nat) (_ : Nat) (_ : Nat) => True) (fun (z0 : Nat) (z1 : Nat) (z2 : Nat) (z3 : Nat) => (((([(a_this, .inr (4, [.ref z0, .ref z1, .ref z2, .ref z3, .int 0, .int 0, .int 0, .int 0, .int 8]))] ++ [(z0, .inl (g.2.1, 61, .inl (fun _ => 0)))]) ++ [(z1, .inl (g.2.1, 61, .inl (fun _ => 0)))]) ++ [(z2, .inl (g.2.1, 61, .inl (fun _ => 0)))]) ++ [(z3, .inl (g.2.2.1, 61, .inr (.inl (fun _ => 0))))])) := by
  refine Kv4.mk (cc := cX7_init) (nL := 1) (by decide +kernel) rfl (Nat.le_of_ble_eq_true rfl) ?_
  intro p e s m below meth c A Q ls F hl V ret hn0
  have hx := F.x
  have hb := F.b
  have hl : lv_has ls 1 [(0, .ref a_this)] := hl
  refine lv_aload_n hx hb dX7_init_0 rfl (lv_at hl 0 rfl) ?_
  refine kobj F hl.1 (by decide +kernel) (by decide +kernel) (by decide +kernel) dX7_init_1 (Nat.le_of_ble_eq_true rfl) (Nat.le_of_ble_eq_true rfl) ?_
  refine lv_aload_n hx hb dX7_init_4 rfl (lv_at hl 0 rfl) ?_
  refine lv_bipush (v := 61) hx hb dX7_init_5 (by decide) ?_
  refine knewi F V (by decide +kernel) 61 (by decide) (by decide) (Nat.le_of_ble_eq_true rfl) (Nat.le_of_ble_eq_true rfl) (Nat.le_of_ble_eq_true rfl) dX7_init_7 (fun q7 H V => ?_)
  have V : VW g A s.heap H _ ([(a_this, .inr (4, [.null, .null, .null, .null, .int 0, .int 0, .int 0, .int 0, .int 0]))] ++ [(q7, .inl (g.2.1, 61, .inl (fun _ => 0)))]) := V
  refine kputF F hn0 V 4 0 0 tyX7_ok nmX7 rfl rfl iX7_init_X7 fX7_init_11 (by decide) rfl rfl rfl rfl (Nat.le_of_ble_eq_true rfl) dX7_init_9 (fun H locs V => ?_)
  have V : VW g A s.heap H locs ([(a_this, .inr (4, [.ref q7, .null, .null, .null, .int 0, .int 0, .int 0, .int 0, .int 0]))] ++ [(q7, .inl (g.2.1, 61, .inl (fun _ => 0)))]) := V
  refine lv_aload_n hx hb dX7_init_12 rfl (lv_at hl 0 rfl) ?_
  refine lv_bipush (v := 61) hx hb dX7_init_13 (by decide) ?_
  refine knewi F V (by decide +kernel) 61 (by decide) (by decide) (Nat.le_of_ble_eq_true rfl) (Nat.le_of_ble_eq_true rfl) (Nat.le_of_ble_eq_true rfl) dX7_init_15 (fun q15 H V => ?_)
  have V : VW g A s.heap H _ (([(a_this, .inr (4, [.ref q7, .null, .null, .null, .int 0, .int 0, .int 0, .int 0, .int 0]))] ++ [(q7, .inl (g.2.1, 61, .inl (fun _ => 0)))]) ++ [(q15, .inl (g.2.1, 61, .inl (fun _ => 0)))]) := V
  refine kputF F hn0 V 4 1 0 tyX7_ok nmX7 rfl rfl iX7_init_X7 fX7_init_15 (by decide) rfl rfl rfl rfl (Nat.le_of_ble_eq_true rfl) dX7_init_17 (fun H locs V => ?_)
  have V : VW g A s.heap H locs (([(a_this, .inr (4, [.ref q7, .ref q15, .null, .null, .int 0, .int 0, .int 0, .int 0, .int 0]))] ++ [(q7, .inl (g.2.1, 61, .inl (fun _ => 0)))]) ++ [(q15, .inl (g.2.1, 61, .inl (fun _ => 0)))]) := V
  refine lv_aload_n hx hb dX7_init_20 rfl (lv_at hl 0 rfl) ?_
  refine lv_bipush (v := 61) hx hb dX7_init_21 (by decide) ?_
  refine knewi F V (by decide +kernel) 61 (by decide) (by decide) (Nat.le_of_ble_eq_true rfl) (Nat.le_of_ble_eq_true rfl) (Nat.le_of_ble_eq_true rfl) dX7_init_23 (fun q23 H V => ?_)
  have V : VW g A s.heap H _ ((([(a_this, .inr (4, [.ref q7, .ref q15, .null, .null, .int 0, .int 0, .int 0, .int 0, .int 0]))] ++ [(q7, .inl (g.2.1, 61, .inl (fun _ => 0)))]) ++ [(q15, .inl (g.2.1, 61, .inl (fun _ => 0)))]) ++ [(q23, .inl (g.2.1, 61, .inl (fun _ => 0)))]) := V
  refine kputF F hn0 V 4 2 0 tyX7_ok nmX7 rfl rfl iX7_init_X7 fX7_init_18 (by decide) rfl rfl rfl rfl (Nat.le_of_ble_eq_true rfl) dX7_init_25 (fun H locs V => ?_)
  have V : VW g A s.heap H locs ((([(a_this, .inr (4, [.ref q7, .ref q15, .ref q23, .null, .int 0, .int 0, .int 0, .int 0, .int 0]))] ++ [(q7, .inl (g.2.1, 61, .inl (fun _ => 0)))]) ++ [(q15, .inl (g.2.1, 61, .inl (fun _ => 0)))]) ++ [(q23, .inl (g.2.1, 61, .inl (fun _ => 0)))]) := V
  refine lv_aload_n hx hb dX7_init_28 rfl (lv_at hl 0 rfl) ?_
  refine lv_bipush (v := 61) hx hb dX7_init_29 (by decide) ?_
  refine knewl F V (by decide +kernel) 61 (by decide) (by decide) (Nat.le_of_ble_eq_true rfl) (Nat.le_of_ble_eq_true rfl) (Nat.le_of_ble_eq_true rfl) dX7_init_31 (fun q31 H V => ?_)
  have V : VW g A s.heap H _ (((([(a_this, .inr (4, [.ref q7, .ref q15, .ref q23, .null, .int 0, .int 0, .int 0, .int 0, .int 0]))] ++ [(q7, .inl (g.2.1, 61, .inl (fun _ => 0)))]) ++ [(q15, .inl (g.2.1, 61, .inl (fun _ => 0)))]) ++ [(q23, .inl (g.2.1, 61, .inl (fun _ => 0)))]) ++ [(q31, .inl (g.2.2.1, 61, .inr (.inl (fun _ => 0))))]) := V
  refine kputF F hn0 V 4 3 0 tyX7_ok nmX7 rfl rfl iX7_init_X7 fX7_init_21 (by decide) rfl rfl rfl rfl (Nat.le_of_ble_eq_true rfl) dX7_init_33 (fun H locs V => ?_)
  have V : VW g A s.heap H locs (((([(a_this, .inr (4, [.ref q7, .ref q15, .ref q23, .ref q31, .int 0, .int 0, .int 0, .int 0, .int 0]))] ++ [(q7, .inl (g.2.1, 61, .inl (fun _ => 0)))]) ++ [(q15, .inl (g.2.1, 61, .inl (fun _ => 0)))]) ++ [(q23, .inl (g.2.1, 61, .inl (fun _ => 0)))]) ++ [(q31, .inl (g.2.2.1, 61, .inr (.inl (fun _ => 0))))]) := V
  refine lv_aload_n hx hb dX7_init_36 rfl (lv_at hl 0 rfl) ?_
  refine lv_iconst (v := 0) hx hb dX7_init_37 (by decide) ?_
  refine kput F V 4 4 0 tyX7_ok nmX7 rfl rfl iX7_init_X7 fX7_init_25 (by decide) rfl rfl rfl rfl (Nat.le_of_ble_eq_true rfl) dX7_init_38 (fun H locs V => ?_)
  have V : VW g A s.heap H locs (((([(a_this, .inr (4, [.ref q7, .ref q15, .ref q23, .ref q31, .int 0, .int 0, .int 0, .int 0, .int 0]))] ++ [(q7, .inl (g.2.1, 61, .inl (fun _ => 0)))]) ++ [(q15, .inl (g.2.1, 61, .inl (fun _ => 0)))]) ++ [(q23, .inl (g.2.1, 61, .inl (fun _ => 0)))]) ++ [(q31, .inl (g.2.2.1, 61, .inr (.inl (fun _ => 0))))]) := V
  refine lv_aload_n hx hb dX7_init_41 rfl (lv_at hl 0 rfl) ?_
  refine lv_iconst (v := 0) hx hb dX7_init_42 (by decide) ?_
  refine kput F V 4 5 0 tyX7_ok nmX7 rfl rfl iX7_init_X7 fX7_init_29 (by decide) rfl rfl rfl rfl (Nat.le_of_ble_eq_true rfl) dX7_init_43 (fun H locs V => ?_)
  have V : VW g A s.heap H locs (((([(a_this, .inr (4, [.ref q7, .ref q15, .ref q23, .ref q31, .int 0, .int 0, .int 0, .int 0, .int 0]))] ++ [(q7, .inl (g.2.1, 61, .inl (fun _ => 0)))]) ++ [(q15, .inl (g.2.1, 61, .inl (fun _ => 0)))]) ++ [(q23, .inl (g.2.1, 61, .inl (fun _ => 0)))]) ++ [(q31, .inl (g.2.2.1, 61, .inr (.inl (fun _ => 0))))]) := V
  refine lv_aload_n hx hb dX7_init_46 rfl (lv_at hl 0 rfl) ?_
  refine lv_iconst (v := 0) hx hb dX7_init_47 (by decide) ?_
  refine kput F V 4 6 0 tyX7_ok nmX7 rfl rfl iX7_init_X7 fX7_init_32 (by decide) rfl rfl rfl rfl (Nat.le_of_ble_eq_true rfl) dX7_init_48 (fun H locs V => ?_)
  have V : VW g A s.heap H locs (((([(a_this, .inr (4, [.ref q7, .ref q15, .ref q23, .ref q31, .int 0, .int 0, .int 0, .int 0, .int 0]))] ++ [(q7, .inl (g.2.1, 61, .inl (fun _ => 0)))]) ++ [(q15, .inl (g.2.1, 61, .inl (fun _ => 0)))]) ++ [(q23, .inl (g.2.1, 61, .inl (fun _ => 0)))]) ++ [(q31, .inl (g.2.2.1, 61, .inr (.inl (fun _ => 0))))]) := V
  refine lv_aload_n hx hb dX7_init_51 rfl (lv_at hl 0 rfl) ?_
  refine lv_iconst (v := 0) hx hb dX7_init_52 (by decide) ?_
  refine kput F V 4 7 0 tyX7_ok nmX7 rfl rfl iX7_init_X7 fX7_init_35 (by decide) rfl rfl rfl rfl (Nat.le_of_ble_eq_true rfl) dX7_init_53 (fun H locs V => ?_)
  have V : VW g A s.heap H locs (((([(a_this, .inr (4, [.ref q7, .ref q15, .ref q23, .ref q31, .int 0, .int 0, .int 0, .int 0, .int 0]))] ++ [(q7, .inl (g.2.1, 61, .inl (fun _ => 0)))]) ++ [(q15, .inl (g.2.1, 61, .inl (fun _ => 0)))]) ++ [(q23, .inl (g.2.1, 61, .inl (fun _ => 0)))]) ++ [(q31, .inl (g.2.2.1, 61, .inr (.inl (fun _ => 0))))]) := V
  refine lv_aload_n hx hb dX7_init_56 rfl (lv_at hl 0 rfl) ?_
  refine lv_bipush (v := 8) hx hb dX7_init_57 (by decide) ?_
  refine kput F V 4 8 0 tyX7_ok nmX7 rfl rfl iX7_init_X7 fX7_init_38 (by decide) rfl rfl rfl rfl (Nat.le_of_ble_eq_true rfl) dX7_init_59 (fun H locs V => ?_)
  have V : VW g A s.heap H locs (((([(a_this, .inr (4, [.ref q7, .ref q15, .ref q23, .ref q31, .int 0, .int 0, .int 0, .int 0, .int 8]))] ++ [(q7, .inl (g.2.1, 61, .inl (fun _ => 0)))]) ++ [(q15, .inl (g.2.1, 61, .inl (fun _ => 0)))]) ++ [(q23, .inl (g.2.1, 61, .inl (fun _ => 0)))]) ++ [(q31, .inl (g.2.2.1, 61, .inr (.inl (fun _ => 0))))]) := V
  exact ret _ _ _ _ _ _ _ _ dX7_init_62 V trivial
theorem hdX10_init : yX10_init.cls = RX10 ∧ yX10_init.cls ≠ "java/lang/invoke/MethodHandle" ∧ yX10_init.cls ≠ "java/lang/invoke/VarHandle" ∧ (parseMethodDescriptor yX10_init.desc).map (fun d => d.parameters.length) = some 0 := by decide +kernel
theorem fX10_init_9 : Cond.fieldLink RX10 9 RX10 "fewest" "[I" ∈ wsX10_init := by decide +kernel
theorem iX10_init_X10 : ∀ w ∈ u_ws RX10 TX10 3, w ∈ wsX10_init := by decide +kernel
theorem fX10_init_15 : Cond.fieldLink RX10 15 RX10 "strokes" "[I" ∈ wsX10_init := by decide +kernel
theorem fX10_init_18 : Cond.fieldLink RX10 18 RX10 "strokeCount" "I" ∈ wsX10_init := by decide +kernel
set_option maxHeartbeats 4000000 in
set_option maxRecDepth 100000 in
theorem kX10_init (l : Launch) (g : kT) (a_this : Nat) : Kv2 l g yX10_init wsX10_init 1 30 2 301 [.ref a_this] [(a_this, .inr (6, [.null, .null, .int 0]))] (fun (_ : Nat) (_ : Nat) => True) (fun (z0 : Nat) (z1 : Nat) => (([(a_this, .inr (6, [.ref z0, .ref z1, .int 0]))] ++ [(z0, .inl (g.2.1, 61, .inl (fun _ => 0)))]) ++ [(z1, .inl (g.2.1, 240, .inl (fun _ => 0)))])) := by
  refine Kv2.mk (cc := cX10_init) (nL := 1) (by decide +kernel) rfl (Nat.le_of_ble_eq_true rfl) ?_
  intro p e s m below meth c A Q ls F hl V ret hn0
  have hx := F.x
  have hb := F.b
  have hl : lv_has ls 1 [(0, .ref a_this)] := hl
  refine lv_aload_n hx hb dX10_init_0 rfl (lv_at hl 0 rfl) ?_
  refine kobj F hl.1 (by decide +kernel) (by decide +kernel) (by decide +kernel) dX10_init_1 (Nat.le_of_ble_eq_true rfl) (Nat.le_of_ble_eq_true rfl) ?_
  refine lv_aload_n hx hb dX10_init_4 rfl (lv_at hl 0 rfl) ?_
  refine lv_bipush (v := 61) hx hb dX10_init_5 (by decide) ?_
  refine knewi F V (by decide +kernel) 61 (by decide) (by decide) (Nat.le_of_ble_eq_true rfl) (Nat.le_of_ble_eq_true rfl) (Nat.le_of_ble_eq_true rfl) dX10_init_7 (fun q7 H V => ?_)
  have V : VW g A s.heap H _ ([(a_this, .inr (6, [.null, .null, .int 0]))] ++ [(q7, .inl (g.2.1, 61, .inl (fun _ => 0)))]) := V
  refine kputF F hn0 V 6 0 0 tyX10_ok nmX10 rfl rfl iX10_init_X10 fX10_init_9 (by decide) rfl rfl rfl rfl (Nat.le_of_ble_eq_true rfl) dX10_init_9 (fun H locs V => ?_)
  have V : VW g A s.heap H locs ([(a_this, .inr (6, [.ref q7, .null, .int 0]))] ++ [(q7, .inl (g.2.1, 61, .inl (fun _ => 0)))]) := V
  refine lv_aload_n hx hb dX10_init_12 rfl (lv_at hl 0 rfl) ?_
  refine lv_sipush (v := 240) hx hb dX10_init_13 (by decide) ?_
  refine knewi F V (by decide +kernel) 240 (by decide) (by decide) (Nat.le_of_ble_eq_true rfl) (Nat.le_of_ble_eq_true rfl) (Nat.le_of_ble_eq_true rfl) dX10_init_16 (fun q16 H V => ?_)
  have V : VW g A s.heap H _ (([(a_this, .inr (6, [.ref q7, .null, .int 0]))] ++ [(q7, .inl (g.2.1, 61, .inl (fun _ => 0)))]) ++ [(q16, .inl (g.2.1, 240, .inl (fun _ => 0)))]) := V
  refine kputF F hn0 V 6 1 0 tyX10_ok nmX10 rfl rfl iX10_init_X10 fX10_init_15 (by decide) rfl rfl rfl rfl (Nat.le_of_ble_eq_true rfl) dX10_init_18 (fun H locs V => ?_)
  have V : VW g A s.heap H locs (([(a_this, .inr (6, [.ref q7, .ref q16, .int 0]))] ++ [(q7, .inl (g.2.1, 61, .inl (fun _ => 0)))]) ++ [(q16, .inl (g.2.1, 240, .inl (fun _ => 0)))]) := V
  refine lv_aload_n hx hb dX10_init_21 rfl (lv_at hl 0 rfl) ?_
  refine lv_iconst (v := 0) hx hb dX10_init_22 (by decide) ?_
  refine kput F V 6 2 0 tyX10_ok nmX10 rfl rfl iX10_init_X10 fX10_init_18 (by decide) rfl rfl rfl rfl (Nat.le_of_ble_eq_true rfl) dX10_init_23 (fun H locs V => ?_)
  have V : VW g A s.heap H locs (([(a_this, .inr (6, [.ref q7, .ref q16, .int 0]))] ++ [(q7, .inl (g.2.1, 61, .inl (fun _ => 0)))]) ++ [(q16, .inl (g.2.1, 240, .inl (fun _ => 0)))]) := V
  exact ret _ _ _ _ _ _ dX10_init_26 V trivial
theorem hdX8_init : yX8_init.cls = RX8 ∧ yX8_init.cls ≠ "java/lang/invoke/MethodHandle" ∧ yX8_init.cls ≠ "java/lang/invoke/VarHandle" ∧ (parseMethodDescriptor yX8_init.desc).map (fun d => d.parameters.length) = some 0 := by decide +kernel
theorem fX8_init_10 : Cond.fieldLink RX8 10 RX8 "dictionary" "LChordDesk$Dictionary;" ∈ wsX8_init := by decide +kernel
theorem iX8_init_X8 : ∀ w ∈ u_ws RX8 TX8 2, w ∈ wsX8_init := by decide +kernel
theorem fX8_init_19 : Cond.fieldLink RX8 19 RX8 "session" "LChordDesk$Session;" ∈ wsX8_init := by decide +kernel
set_option maxHeartbeats 4000000 in
set_option maxRecDepth 100000 in
theorem kX8_init (l : Launch) (g : kT) (a_this : Nat) : Kv8 l g yX8_init wsX8_init 2 50 8 304 [.ref a_this] [(a_this, .inr (5, [.null, .null]))] (fun (_ : Nat) (_ : Nat) (_ : Nat) (_ : Nat) (_ : Nat) (_ : Nat) (_ : Nat) (_ : Nat) => True) (fun (z0 : Nat) (z1 : Nat) (z2 : Nat) (z3 : Nat) (z4 : Nat) (z5 : Nat) (z6 : Nat) (z7 : Nat) => (([(a_this, .inr (5, [.ref z0, .ref z3]))] ++ (([(z0, .inr (1, [.ref z1, .ref z2, .int 0]))] ++ [(z1, .inl (g.2.2.1, 24, .inr (.inl (fun _ => 0))))]) ++ [(z2, .inl (g.2.2.1, 24, .inr (.inl (fun _ => 0))))])) ++ (((([(z3, .inr (4, [.ref z4, .ref z5, .ref z6, .ref z7, .int 0, .int 0, .int 0, .int 0, .int 8]))] ++ [(z4, .inl (g.2.1, 61, .inl (fun _ => 0)))]) ++ [(z5, .inl (g.2.1, 61, .inl (fun _ => 0)))]) ++ [(z6, .inl (g.2.1, 61, .inl (fun _ => 0)))]) ++ [(z7, .inl (g.2.2.1, 61, .inr (.inl (fun _ => 0))))]))) := by
  refine Kv8.mk (cc := cX8_init) (nL := 1) (by decide +kernel) rfl (Nat.le_of_ble_eq_true rfl) ?_
  intro p e s m below meth c A Q ls F hl V ret hn0
  have hx := F.x
  have hb := F.b
  have hl : lv_has ls 1 [(0, .ref a_this)] := hl
  refine lv_aload_n hx hb dX8_init_0 rfl (lv_at hl 0 rfl) ?_
  refine kobj F hl.1 (by decide +kernel) (by decide +kernel) (by decide +kernel) dX8_init_1 (Nat.le_of_ble_eq_true rfl) (Nat.le_of_ble_eq_true rfl) ?_
  refine lv_aload_n hx hb dX8_init_4 rfl (lv_at hl 0 rfl) ?_
  refine knew F V 1 [.null, .null, .int 0] tyX1_ok rfl (by decide +kernel) (by decide +kernel : Cond.classLink RX8 7 RX1 ∈ _) (by decide +kernel) (by decide +kernel) (fun j hj => by rcases (show j = 0 ∨ j = 1 ∨ j = 2 by omega) with rfl | rfl | rfl <;> rfl) (Nat.le_of_ble_eq_true rfl) (Nat.le_of_ble_eq_true rfl) dX8_init_5 (fun q5 H V => ?_)
  have V : VW g A s.heap H _ ([(a_this, .inr (5, [.null, .null]))] ++ [(q5, .inr (1, [.null, .null, .int 0]))]) := V
  refine lv_dup hx hb dX8_init_8 rfl ?_
  refine kIn (rest := [.ref q5, .ref a_this]) F hl V q5 (kX1_init l g q5) gX8_init_X1_init_n9 rfl (by decide +kernel) (List.mem_of_getElem? (i := 2) rfl) (by decide +kernel) rfl hdX1_init.2 ⟨Nat.le_of_ble_eq_true rfl, Nat.le_of_ble_eq_true rfl⟩ ⟨Nat.le_of_ble_eq_true rfl, Nat.le_of_ble_eq_true rfl⟩ (Nat.le_of_ble_eq_true rfl) dX8_init_9 (fun u H locs _ V => ?_)
  obtain ⟨u9_0, u9_1⟩ := u
  have V : VW g A s.heap H locs ([(a_this, .inr (5, [.null, .null]))] ++ (([(q5, .inr (1, [.ref u9_0, .ref u9_1, .int 0]))] ++ [(u9_0, .inl (g.2.2.1, 24, .inr (.inl (fun _ => 0))))]) ++ [(u9_1, .inl (g.2.2.1, 24, .inr (.inl (fun _ => 0))))])) := V
  refine kputF F hn0 V 5 0 0 tyX8_ok nmX8 rfl rfl iX8_init_X8 fX8_init_10 (by decide) rfl rfl rfl rfl (Nat.le_of_ble_eq_true rfl) dX8_init_12 (fun H locs V => ?_)
  have V : VW g A s.heap H locs ([(a_this, .inr (5, [.ref q5, .null]))] ++ (([(q5, .inr (1, [.ref u9_0, .ref u9_1, .int 0]))] ++ [(u9_0, .inl (g.2.2.1, 24, .inr (.inl (fun _ => 0))))]) ++ [(u9_1, .inl (g.2.2.1, 24, .inr (.inl (fun _ => 0))))])) := V
  refine lv_aload_n hx hb dX8_init_15 rfl (lv_at hl 0 rfl) ?_
  refine knew F V 4 [.null, .null, .null, .null, .int 0, .int 0, .int 0, .int 0, .int 0] tyX7_ok rfl (by decide +kernel) (by decide +kernel : Cond.classLink RX8 16 RX7 ∈ _) (by decide +kernel) (by decide +kernel) (fun j hj => by rcases (show j = 0 ∨ j = 1 ∨ j = 2 ∨ j = 3 ∨ j = 4 ∨ j = 5 ∨ j = 6 ∨ j = 7 ∨ j = 8 by omega) with rfl | rfl | rfl | rfl | rfl | rfl | rfl | rfl | rfl <;> rfl) (Nat.le_of_ble_eq_true rfl) (Nat.le_of_ble_eq_true rfl) dX8_init_16 (fun q16 H V => ?_)
  have V : VW g A s.heap H _ (([(a_this, .inr (5, [.ref q5, .null]))] ++ (([(q5, .inr (1, [.ref u9_0, .ref u9_1, .int 0]))] ++ [(u9_0, .inl (g.2.2.1, 24, .inr (.inl (fun _ => 0))))]) ++ [(u9_1, .inl (g.2.2.1, 24, .inr (.inl (fun _ => 0))))])) ++ [(q16, .inr (4, [.null, .null, .null, .null, .int 0, .int 0, .int 0, .int 0, .int 0]))]) := V
  refine lv_dup hx hb dX8_init_19 rfl ?_
  refine kIn (rest := [.ref q16, .ref a_this]) F hl V q16 (kX7_init l g q16) gX8_init_X7_init_n18 rfl (by decide +kernel) (List.mem_of_getElem? (i := 3) rfl) (by decide +kernel) rfl hdX7_init.2 ⟨Nat.le_of_ble_eq_true rfl, Nat.le_of_ble_eq_true rfl⟩ ⟨Nat.le_of_ble_eq_true rfl, Nat.le_of_ble_eq_true rfl⟩ (Nat.le_of_ble_eq_true rfl) dX8_init_20 (fun u H locs _ V => ?_)
  obtain ⟨u20_0, u20_1, u20_2, u20_3⟩ := u
  have V : VW g A s.heap H locs (([(a_this, .inr (5, [.ref q5, .null]))] ++ (([(q5, .inr (1, [.ref u9_0, .ref u9_1, .int 0]))] ++ [(u9_0, .inl (g.2.2.1, 24, .inr (.inl (fun _ => 0))))]) ++ [(u9_1, .inl (g.2.2.1, 24, .inr (.inl (fun _ => 0))))])) ++ (((([(q16, .inr (4, [.ref u20_0, .ref u20_1, .ref u20_2, .ref u20_3, .int 0, .int 0, .int 0, .int 0, .int 8]))] ++ [(u20_0, .inl (g.2.1, 61, .inl (fun _ => 0)))]) ++ [(u20_1, .inl (g.2.1, 61, .inl (fun _ => 0)))]) ++ [(u20_2, .inl (g.2.1, 61, .inl (fun _ => 0)))]) ++ [(u20_3, .inl (g.2.2.1, 61, .inr (.inl (fun _ => 0))))])) := V
  refine kputF F hn0 V 5 1 0 tyX8_ok nmX8 rfl rfl iX8_init_X8 fX8_init_19 (by decide) rfl rfl rfl rfl (Nat.le_of_ble_eq_true rfl) dX8_init_23 (fun H locs V => ?_)
  have V : VW g A s.heap H locs (([(a_this, .inr (5, [.ref q5, .ref q16]))] ++ (([(q5, .inr (1, [.ref u9_0, .ref u9_1, .int 0]))] ++ [(u9_0, .inl (g.2.2.1, 24, .inr (.inl (fun _ => 0))))]) ++ [(u9_1, .inl (g.2.2.1, 24, .inr (.inl (fun _ => 0))))])) ++ (((([(q16, .inr (4, [.ref u20_0, .ref u20_1, .ref u20_2, .ref u20_3, .int 0, .int 0, .int 0, .int 0, .int 8]))] ++ [(u20_0, .inl (g.2.1, 61, .inl (fun _ => 0)))]) ++ [(u20_1, .inl (g.2.1, 61, .inl (fun _ => 0)))]) ++ [(u20_2, .inl (g.2.1, 61, .inl (fun _ => 0)))]) ++ [(u20_3, .inl (g.2.2.1, 61, .inr (.inl (fun _ => 0))))])) := V
  exact ret _ _ _ _ _ _ _ _ _ _ _ _ dX8_init_26 V trivial
def v0 : SV := (fun _ => 0, fun _ => 0, 0, fun _ => 0, fun _ => 0, fun _ => 0, fun _ => 0, 0, 0, 0, 0, 8)
def poolK (g : kT) (k : Nat) (sa : Nat → Nat → Nat) : va_W := (List.range k).flatMap (fun i => gSt g (sa i) v0)
def histF (sa : Nat → Nat → Nat) (k : Nat) : Nat → Option Nat := fun i => if i < k then some (sa i 0) else none
theorem poolK_up (g : kT) (k : Nat) (sa : Nat → Nat → Nat) (b : Nat → Nat) : poolK g (k + 1) (va_up sa k b) = poolK g k sa ++ gSt g b v0 := by
  unfold poolK
  rw [List.range_succ, List.flatMap_append, List.flatMap_singleton, show va_up sa k b k = b by simp [va_up]]
  refine congrArg (· ++ gSt g b v0) (k_fmc _ (fun i hi => ?_))
  rw [va_up_ne _ _ (Nat.ne_of_lt (List.mem_range.mp hi))]
theorem histF_up (sa : Nat → Nat → Nat) (k : Nat) (b : Nat → Nat) : va_up (histF sa k) k (some (b 0)) = histF (va_up sa k b) (k + 1) := by
  funext i
  unfold histF va_up
  by_cases h : i = k
  · subst h; rw [if_pos rfl, if_pos (by omega), if_pos rfl]
  · rw [if_neg h, if_neg h]
    show (if i < k then some (sa i 0) else none) = _
    by_cases h2 : i < k
    · rw [if_pos h2, if_pos (by omega)]
    · rw [if_neg h2, if_neg (by omega)]
theorem hdX2_init : yX2_init.cls = RX2 ∧ yX2_init.cls ≠ "java/lang/invoke/MethodHandle" ∧ yX2_init.cls ≠ "java/lang/invoke/VarHandle" ∧ (parseMethodDescriptor yX2_init.desc).map (fun d => d.parameters.length) = some 0 := by decide +kernel
theorem fX2_init_11 : Cond.fieldLink RX2 11 RX2 "states" "[LChordDesk$State;" ∈ wsX2_init := by decide +kernel
theorem iX2_init_X2 : ∀ w ∈ u_ws RX2 TX2 2, w ∈ wsX2_init := by decide +kernel
theorem fX2_init_17 : Cond.fieldLink RX2 17 RX2 "size" "I" ∈ wsX2_init := by decide +kernel
set_option maxHeartbeats 4000000 in
set_option maxRecDepth 100000 in
theorem kX2_init (l : Launch) (g : kT) (a_this : Nat) : Kv2 l g yX2_init wsX2_init 3 70 73 2456 [.ref a_this] [(a_this, .inr (2, [.null, .int 0]))] (fun (_ : Nat) (_ : Nat → Nat → Nat) => True) (fun z0 sa => gX2 g a_this z0 0 ++ (gAS g z0 (kPi sa id) ++ poolW g sa (fun _ => v0))) := by
  refine Kv2.mk (cc := cX2_init) (nL := 2) (by decide +kernel) rfl (Nat.le_of_ble_eq_true rfl) ?_
  intro p e s m below meth c A Q ls F hl V ret hn0
  have hx := F.x
  have hb := F.b
  have hl : lv_has ls 2 [(0, .ref a_this)] := hl
  refine lv_aload_n hx hb dX2_init_0 rfl (lv_at hl 0 rfl) ?_
  refine kobj F hl.1 (by decide +kernel) (by decide +kernel) (by decide +kernel) dX2_init_1 (Nat.le_of_ble_eq_true rfl) (Nat.le_of_ble_eq_true rfl) ?_
  refine lv_aload_n hx hb dX2_init_4 rfl (lv_at hl 0 rfl) ?_
  refine lv_bipush (v := 8) hx hb dX2_init_5 (by decide) ?_
  refine knewq F V (index := 9) (by decide +kernel) F.Z.2.2.2.2 8 (by decide) (by decide) (Nat.le_of_ble_eq_true rfl) (Nat.le_of_ble_eq_true rfl) (Nat.le_of_ble_eq_true rfl) dX2_init_7 (fun q7 H V => ?_)
  refine kputF F hn0 V 2 0 0 tyX2_ok nmX2 rfl rfl iX2_init_X2 fX2_init_11 (by decide) rfl rfl rfl rfl (Nat.le_of_ble_eq_true rfl) dX2_init_10 (fun H locs V => ?_)
  refine lv_aload_n hx hb dX2_init_13 rfl (lv_at hl 0 rfl) ?_
  refine lv_iconst (v := 0) hx hb dX2_init_14 (by decide) ?_
  refine kput F V 2 1 0 tyX2_ok nmX2 rfl rfl iX2_init_X2 fX2_init_17 (by decide) rfl rfl rfl rfl (Nat.le_of_ble_eq_true rfl) dX2_init_15 (fun H locs V => ?_)
  have V : VW g A s.heap H locs ((gX2 g a_this q7 0 ++ gAS g q7 (fun _ => none)) ++ []) := V
  refine lv_iconst (v := 0) hx hb dX2_init_18 (by decide) ?_
  refine lv_istore_n (lv' := [(1, .int 0), (0, .ref a_this)]) hx hb dX2_init_19 rfl hl (by decide) rfl (fun ls hl => ?_)
  have B20 : ∀ (n k : Nat) (sa : Nat → Nat → Nat), k ≤ 8 → 8 - k < n → ∀ {H : Heap} {locs : List Loc} {ls : Array Slot} (V : VW g A s.heap H locs ((gX2 g a_this q7 0 ++ gAS g q7 (histF sa k)) ++ poolK g k sa)) (hl : lv_has ls 2 [(0, .ref a_this), (1, .int (nI k))]), W p l e (kR 3 70 73 2456) s m ([.ref a_this] : List Value).toArray below meth c H locs (1 + 9 * k) (8 + 306 * k) Q (F0 m 20 ls []) := by
    intro n
    induction n with
    | zero => intro k sa h1 h2; omega
    | succ n ih =>
      intro k sa h1 h2 H locs ls V hl
      refine lv_iload_n hx hb dX2_init_20 rfl (lv_at hl 1 rfl) ?_
      refine lv_aload_n hx hb dX2_init_21 rfl (lv_at hl 0 rfl) ?_
      refine kget F V 2 0 0 rfl rfl iX2_init_X2 fX2_init_11 (by decide) rfl rfl dX2_init_22 ?_
      refine kaalen F V 1 rfl dX2_init_25 ?_
      refine lv_icmp_ge (tgt := 48) hx hb dX2_init_26 (by decide) (fun c_26 => ?_) (fun c_26 => ?_)
      · have hk8 : k = 8 := by have := (nI_leI (a := 8) (b := k) (by omega) (by omega)).mp c_26; omega
        subst hk8
        have V9 : VW g A s.heap H locs (((gX2 g a_this q7 0 ++ gAS g q7 (histF sa 8)) ++ poolK g 8 sa).set 1 (q7, .inl (g.2.2.2, 8, .inr (.inr (.inr (.inr (histF sa 8))))))) := V
        have V9 := V9.same (x' := (8, .inr (.inr (.inr (.inr (kPi sa id)))))) (by
          rw [vp_cell_q, vp_cell_q]
          refine k_arr fun j hj => ?_
          show va_rf (histF sa 8 j) = va_rf (kPi sa id j)
          unfold histF kPi
          rw [if_pos hj]; rfl)
        have V : VW g A s.heap H locs (gX2 g a_this q7 0 ++ (gAS g q7 (kPi sa id) ++ poolW g sa (fun _ => v0))) := V9
        exact ret _ _ _ _ _ _ dX2_init_48 V trivial
      · have hk8 : k < 8 := Nat.not_le.mp (fun h => c_26 ((nI_leI (by omega) (by omega)).mpr h))
        refine lv_aload_n hx hb dX2_init_29 rfl (lv_at hl 0 rfl) ?_
        refine kget F V 2 0 0 rfl rfl iX2_init_X2 fX2_init_11 (by decide) rfl rfl dX2_init_30 ?_
        refine lv_iload_n hx hb dX2_init_33 rfl (lv_at hl 1 rfl) ?_
        refine knew F V 5 [.null, .null] tyX8_ok rfl (by decide +kernel) (by decide +kernel : Cond.classLink RX2 9 RX8 ∈ _) (by decide +kernel) (by decide +kernel) (fun j hj => by rcases (show j = 0 ∨ j = 1 by omega) with rfl | rfl <;> rfl) (by show _ ≤ 73; omega) (by show _ ≤ 2456; omega) dX2_init_34 (fun q34 H V => ?_)
        refine lv_dup hx hb dX2_init_37 rfl ?_
        refine kIn (rest := [.ref q34, .int (nI k), .ref q7]) F hl V q34 (kX8_init l g q34) gX2_init_X8_init_n21 rfl (by decide +kernel) (List.mem_of_getElem? (i := 4) rfl) (by decide +kernel) rfl hdX8_init.2 ⟨Nat.le_of_ble_eq_true rfl, Nat.le_of_ble_eq_true rfl⟩ ⟨by show _ ≤ 73; omega, by show _ ≤ 2456; omega⟩ (Nat.le_of_ble_eq_true rfl) dX2_init_38 (fun u H locs _ V => ?_)
        obtain ⟨u0, u1, u2, u3, u4, u5, u6, u7⟩ := u
        obtain ⟨b, hb9⟩ : ∃ b : Nat → Nat, b = (fun i => if i = 0 then q34 else if i = 1 then u0 else if i = 2 then u3 else if i = 3 then u1 else if i = 4 then u2 else if i = 5 then u4 else if i = 6 then u5 else if i = 7 then u6 else u7) := ⟨_, rfl⟩
        have e0 : b 0 = q34 := by rw [hb9]; rfl
        have V : VW g A s.heap H locs (((gX2 g a_this q7 0 ++ gAS g q7 (histF sa k)) ++ poolK g k sa) ++ gSt g b v0) := by rw [hb9]; exact V
        rw [← e0]
        refine kaast F V 1 rfl (vs := [.ref (b 1), .ref (b 2)]) (List.mem_append_right _ (by unfold gSt; simp)) (vp_in_nI hk8 (by omega)) dX2_init_41 (fun H locs V => ?_)
        rw [nI_clamp (show k < 2 ^ 31 by omega), histF_up] at V
        have V : VW g A s.heap H locs (((gX2 g a_this q7 0 ++ gAS g q7 (histF (va_up sa k b) (k + 1))) ++ poolK g k sa) ++ gSt g b v0) := V
        rw [List.append_assoc _ (poolK g k sa), ← poolK_up] at V
        refine lv_iinc (v := nI (k + 1)) (lv' := [(1, .int (nI (k + 1))), (0, .ref a_this)]) hx hb dX2_init_42 hl (k := 1) rfl (nI_1 k) (by decide) rfl (fun ls hl => ?_)
        refine lv_goto (tgt := 20) hx hb dX2_init_45 (by decide) ?_
        rw [show 1 + 9 * k + 1 + 8 = 1 + 9 * (k + 1) by omega, show 8 + 306 * k + 2 + 304 = 8 + 306 * (k + 1) by omega]
        exact ih (k + 1) _ (by omega) (by omega) V (lv_sub hl [1, 0] rfl)
  have h0 : histF (fun _ _ => 0) 0 = fun _ => none := by funext i; unfold histF; rw [if_neg (by omega)]
  exact B20 9 0 (fun _ _ => 0) (by omega) (by omega) (by rw [h0]; exact V) (lv_sub hl [1, 0] rfl)
theorem hdX11_init : yX11_init.cls = RX11 ∧ yX11_init.cls ≠ "java/lang/invoke/MethodHandle" ∧ yX11_init.cls ≠ "java/lang/invoke/VarHandle" ∧ (parseMethodDescriptor yX11_init.desc).map (fun d => d.parameters.length) = some 0 := by decide +kernel
theorem fX11_init_10 : Cond.fieldLink RX11 10 RX11 "now" "LChordDesk$State;" ∈ wsX11_init := by decide +kernel
theorem iX11_init_X11 : ∀ w ∈ u_ws RX11 TX11 6, w ∈ wsX11_init := by decide +kernel
theorem fX11_init_16 : Cond.fieldLink RX11 16 RX11 "trial" "LChordDesk$State;" ∈ wsX11_init := by decide +kernel
theorem fX11_init_22 : Cond.fieldLink RX11 22 RX11 "history" "LChordDesk$History;" ∈ wsX11_init := by decide +kernel
theorem fX11_init_29 : Cond.fieldLink RX11 29 RX11 "buffer" "LChordDesk$Buffer;" ∈ wsX11_init := by decide +kernel
theorem fX11_init_36 : Cond.fieldLink RX11 36 RX11 "reader" "LChordDesk$ListReader;" ∈ wsX11_init := by decide +kernel
theorem fX11_init_43 : Cond.fieldLink RX11 43 RX11 "writing" "LChordDesk$Writing;" ∈ wsX11_init := by decide +kernel
set_option maxHeartbeats 4000000 in
set_option maxRecDepth 100000 in
theorem kX11_init (l : Launch) (g : kT) (a_this : Nat) : Kv27 l g yX11_init wsX11_init 4 91 98 3442 [.ref a_this] [(a_this, .inr (7, [.null, .null, .null, .null, .null, .null]))] (fun (_ : Nat) (_ : Nat) (_ : Nat) (_ : Nat) (_ : Nat) (_ : Nat) (_ : Nat) (_ : Nat) (_ : Nat) (_ : Nat) (_ : Nat) (_ : Nat) (_ : Nat) (_ : Nat) (_ : Nat) (_ : Nat) (_ : Nat) (_ : Nat) (_ : Nat) (_ : Nat) (_ : Nat → Nat → Nat) (_ : Nat) (_ : Nat) (_ : Nat) (_ : Nat) (_ : Nat) (_ : Nat) => True) (fun (z0 : Nat) (z1 : Nat) (z2 : Nat) (z3 : Nat) (z4 : Nat) (z5 : Nat) (z6 : Nat) (z7 : Nat) (z8 : Nat) (z9 : Nat) (z10 : Nat) (z11 : Nat) (z12 : Nat) (z13 : Nat) (z14 : Nat) (z15 : Nat) (z16 : Nat) (z17 : Nat) (z18 : Nat) (z19 : Nat) (z20 : Nat → Nat → Nat) (z21 : Nat) (z22 : Nat) (z23 : Nat) (z24 : Nat) (z25 : Nat) (z26 : Nat) => (((((([(a_this, .inr (7, [.ref z0, .ref z9, .ref z18, .ref z21, .ref z23, .ref z24]))] ++ (([(z0, .inr (5, [.ref z1, .ref z4]))] ++ (([(z1, .inr (1, [.ref z2, .ref z3, .int 0]))] ++ [(z2, .inl (g.2.2.1, 24, .inr (.inl (fun _ => 0))))]) ++ [(z3, .inl (g.2.2.1, 24, .inr (.inl (fun _ => 0))))])) ++ (((([(z4, .inr (4, [.ref z5, .ref z6, .ref z7, .ref z8, .int 0, .int 0, .int 0, .int 0, .int 8]))] ++ [(z5, .inl (g.2.1, 61, .inl (fun _ => 0)))]) ++ [(z6, .inl (g.2.1, 61, .inl (fun _ => 0)))]) ++ [(z7, .inl (g.2.1, 61, .inl (fun _ => 0)))]) ++ [(z8, .inl (g.2.2.1, 61, .inr (.inl (fun _ => 0))))]))) ++ (([(z9, .inr (5, [.ref z10, .ref z13]))] ++ (([(z10, .inr (1, [.ref z11, .ref z12, .int 0]))] ++ [(z11, .inl (g.2.2.1, 24, .inr (.inl (fun _ => 0))))]) ++ [(z12, .inl (g.2.2.1, 24, .inr (.inl (fun _ => 0))))])) ++ (((([(z13, .inr (4, [.ref z14, .ref z15, .ref z16, .ref z17, .int 0, .int 0, .int 0, .int 0, .int 8]))] ++ [(z14, .inl (g.2.1, 61, .inl (fun _ => 0)))]) ++ [(z15, .inl (g.2.1, 61, .inl (fun _ => 0)))]) ++ [(z16, .inl (g.2.1, 61, .inl (fun _ => 0)))]) ++ [(z17, .inl (g.2.2.1, 61, .inr (.inl (fun _ => 0))))]))) ++ (gX2 g z18 z19 0 ++ (gAS g z19 (kPi z20 id) ++ poolW g z20 (fun _ => v0)))) ++ ([(z21, .inr (0, [.ref z22, .int 0]))] ++ [(z22, .inl (g.2.1, 60, .inl (fun _ => 0)))])) ++ ([(z23, .inr (3, [.long 0, .int 0, .int 0, .int 0, .long 0, .int 0]))])) ++ (([(z24, .inr (6, [.ref z25, .ref z26, .int 0]))] ++ [(z25, .inl (g.2.1, 61, .inl (fun _ => 0)))]) ++ [(z26, .inl (g.2.1, 240, .inl (fun _ => 0)))]))) := by
  refine Kv27.mk (cc := cX11_init) (nL := 1) (by decide +kernel) rfl (Nat.le_of_ble_eq_true rfl) ?_
  intro p e s m below meth c A Q ls F hl V ret hn0
  have hx := F.x
  have hb := F.b
  have hl : lv_has ls 1 [(0, .ref a_this)] := hl
  refine lv_aload_n hx hb dX11_init_0 rfl (lv_at hl 0 rfl) ?_
  refine kobj F hl.1 (by decide +kernel) (by decide +kernel) (by decide +kernel) dX11_init_1 (Nat.le_of_ble_eq_true rfl) (Nat.le_of_ble_eq_true rfl) ?_
  refine lv_aload_n hx hb dX11_init_4 rfl (lv_at hl 0 rfl) ?_
  refine knew F V 5 [.null, .null] tyX8_ok rfl (by decide +kernel) (by decide +kernel : Cond.classLink RX11 7 RX8 ∈ _) (by decide +kernel) (by decide +kernel) (fun j hj => by rcases (show j = 0 ∨ j = 1 by omega) with rfl | rfl <;> rfl) (Nat.le_of_ble_eq_true rfl) (Nat.le_of_ble_eq_true rfl) dX11_init_5 (fun q5 H V => ?_)
  have V : VW g A s.heap H _ ([(a_this, .inr (7, [.null, .null, .null, .null, .null, .null]))] ++ [(q5, .inr (5, [.null, .null]))]) := V
  refine lv_dup hx hb dX11_init_8 rfl ?_
  refine kIn (rest := [.ref q5, .ref a_this]) F hl V q5 (kX8_init l g q5) gX11_init_X8_init_n9 rfl (by decide +kernel) (List.mem_of_getElem? (i := 1) rfl) (by decide +kernel) rfl hdX8_init.2 ⟨Nat.le_of_ble_eq_true rfl, Nat.le_of_ble_eq_true rfl⟩ ⟨Nat.le_of_ble_eq_true rfl, Nat.le_of_ble_eq_true rfl⟩ (Nat.le_of_ble_eq_true rfl) dX11_init_9 (fun u H locs _ V => ?_)
  obtain ⟨u9_0, u9_1, u9_2, u9_3, u9_4, u9_5, u9_6, u9_7⟩ := u
  have V : VW g A s.heap H locs ([(a_this, .inr (7, [.null, .null, .null, .null, .null, .null]))] ++ (([(q5, .inr (5, [.ref u9_0, .ref u9_3]))] ++ (([(u9_0, .inr (1, [.ref u9_1, .ref u9_2, .int 0]))] ++ [(u9_1, .inl (g.2.2.1, 24, .inr (.inl (fun _ => 0))))]) ++ [(u9_2, .inl (g.2.2.1, 24, .inr (.inl (fun _ => 0))))])) ++ (((([(u9_3, .inr (4, [.ref u9_4, .ref u9_5, .ref u9_6, .ref u9_7, .int 0, .int 0, .int 0, .int 0, .int 8]))] ++ [(u9_4, .inl (g.2.1, 61, .inl (fun _ => 0)))]) ++ [(u9_5, .inl (g.2.1, 61, .inl (fun _ => 0)))]) ++ [(u9_6, .inl (g.2.1, 61, .inl (fun _ => 0)))]) ++ [(u9_7, .inl (g.2.2.1, 61, .inr (.inl (fun _ => 0))))]))) := V
  refine kputF F hn0 V 7 0 0 tyX11_ok nmX11 rfl rfl iX11_init_X11 fX11_init_10 (by decide) rfl rfl rfl rfl (Nat.le_of_ble_eq_true rfl) dX11_init_12 (fun H locs V => ?_)
  have V : VW g A s.heap H locs ([(a_this, .inr (7, [.ref q5, .null, .null, .null, .null, .null]))] ++ (([(q5, .inr (5, [.ref u9_0, .ref u9_3]))] ++ (([(u9_0, .inr (1, [.ref u9_1, .ref u9_2, .int 0]))] ++ [(u9_1, .inl (g.2.2.1, 24, .inr (.inl (fun _ => 0))))]) ++ [(u9_2, .inl (g.2.2.1, 24, .inr (.inl (fun _ => 0))))])) ++ (((([(u9_3, .inr (4, [.ref u9_4, .ref u9_5, .ref u9_6, .ref u9_7, .int 0, .int 0, .int 0, .int 0, .int 8]))] ++ [(u9_4, .inl (g.2.1, 61, .inl (fun _ => 0)))]) ++ [(u9_5, .inl (g.2.1, 61, .inl (fun _ => 0)))]) ++ [(u9_6, .inl (g.2.1, 61, .inl (fun _ => 0)))]) ++ [(u9_7, .inl (g.2.2.1, 61, .inr (.inl (fun _ => 0))))]))) := V
  refine lv_aload_n hx hb dX11_init_15 rfl (lv_at hl 0 rfl) ?_
  refine knew F V 5 [.null, .null] tyX8_ok rfl (by decide +kernel) (by decide +kernel : Cond.classLink RX11 7 RX8 ∈ _) (by decide +kernel) (by decide +kernel) (fun j hj => by rcases (show j = 0 ∨ j = 1 by omega) with rfl | rfl <;> rfl) (Nat.le_of_ble_eq_true rfl) (Nat.le_of_ble_eq_true rfl) dX11_init_16 (fun q16 H V => ?_)
  have V : VW g A s.heap H _ (([(a_this, .inr (7, [.ref q5, .null, .null, .null, .null, .null]))] ++ (([(q5, .inr (5, [.ref u9_0, .ref u9_3]))] ++ (([(u9_0, .inr (1, [.ref u9_1, .ref u9_2, .int 0]))] ++ [(u9_1, .inl (g.2.2.1, 24, .inr (.inl (fun _ => 0))))]) ++ [(u9_2, .inl (g.2.2.1, 24, .inr (.inl (fun _ => 0))))])) ++ (((([(u9_3, .inr (4, [.ref u9_4, .ref u9_5, .ref u9_6, .ref u9_7, .int 0, .int 0, .int 0, .int 0, .int 8]))] ++ [(u9_4, .inl (g.2.1, 61, .inl (fun _ => 0)))]) ++ [(u9_5, .inl (g.2.1, 61, .inl (fun _ => 0)))]) ++ [(u9_6, .inl (g.2.1, 61, .inl (fun _ => 0)))]) ++ [(u9_7, .inl (g.2.2.1, 61, .inr (.inl (fun _ => 0))))]))) ++ [(q16, .inr (5, [.null, .null]))]) := V
  refine lv_dup hx hb dX11_init_19 rfl ?_
  refine kIn (rest := [.ref q16, .ref a_this]) F hl V q16 (kX8_init l g q16) gX11_init_X8_init_n9 rfl (by decide +kernel) (List.mem_of_getElem? (i := 1) rfl) (by decide +kernel) rfl hdX8_init.2 ⟨Nat.le_of_ble_eq_true rfl, Nat.le_of_ble_eq_true rfl⟩ ⟨Nat.le_of_ble_eq_true rfl, Nat.le_of_ble_eq_true rfl⟩ (Nat.le_of_ble_eq_true rfl) dX11_init_20 (fun u H locs _ V => ?_)
  obtain ⟨u20_0, u20_1, u20_2, u20_3, u20_4, u20_5, u20_6, u20_7⟩ := u
  have V : VW g A s.heap H locs (([(a_this, .inr (7, [.ref q5, .null, .null, .null, .null, .null]))] ++ (([(q5, .inr (5, [.ref u9_0, .ref u9_3]))] ++ (([(u9_0, .inr (1, [.ref u9_1, .ref u9_2, .int 0]))] ++ [(u9_1, .inl (g.2.2.1, 24, .inr (.inl (fun _ => 0))))]) ++ [(u9_2, .inl (g.2.2.1, 24, .inr (.inl (fun _ => 0))))])) ++ (((([(u9_3, .inr (4, [.ref u9_4, .ref u9_5, .ref u9_6, .ref u9_7, .int 0, .int 0, .int 0, .int 0, .int 8]))] ++ [(u9_4, .inl (g.2.1, 61, .inl (fun _ => 0)))]) ++ [(u9_5, .inl (g.2.1, 61, .inl (fun _ => 0)))]) ++ [(u9_6, .inl (g.2.1, 61, .inl (fun _ => 0)))]) ++ [(u9_7, .inl (g.2.2.1, 61, .inr (.inl (fun _ => 0))))]))) ++ (([(q16, .inr (5, [.ref u20_0, .ref u20_3]))] ++ (([(u20_0, .inr (1, [.ref u20_1, .ref u20_2, .int 0]))] ++ [(u20_1, .inl (g.2.2.1, 24, .inr (.inl (fun _ => 0))))]) ++ [(u20_2, .inl (g.2.2.1, 24, .inr (.inl (fun _ => 0))))])) ++ (((([(u20_3, .inr (4, [.ref u20_4, .ref u20_5, .ref u20_6, .ref u20_7, .int 0, .int 0, .int 0, .int 0, .int 8]))] ++ [(u20_4, .inl (g.2.1, 61, .inl (fun _ => 0)))]) ++ [(u20_5, .inl (g.2.1, 61, .inl (fun _ => 0)))]) ++ [(u20_6, .inl (g.2.1, 61, .inl (fun _ => 0)))]) ++ [(u20_7, .inl (g.2.2.1, 61, .inr (.inl (fun _ => 0))))]))) := V
  refine kputF F hn0 V 7 1 0 tyX11_ok nmX11 rfl rfl iX11_init_X11 fX11_init_16 (by decide) rfl rfl rfl rfl (Nat.le_of_ble_eq_true rfl) dX11_init_23 (fun H locs V => ?_)
  have V : VW g A s.heap H locs (([(a_this, .inr (7, [.ref q5, .ref q16, .null, .null, .null, .null]))] ++ (([(q5, .inr (5, [.ref u9_0, .ref u9_3]))] ++ (([(u9_0, .inr (1, [.ref u9_1, .ref u9_2, .int 0]))] ++ [(u9_1, .inl (g.2.2.1, 24, .inr (.inl (fun _ => 0))))]) ++ [(u9_2, .inl (g.2.2.1, 24, .inr (.inl (fun _ => 0))))])) ++ (((([(u9_3, .inr (4, [.ref u9_4, .ref u9_5, .ref u9_6, .ref u9_7, .int 0, .int 0, .int 0, .int 0, .int 8]))] ++ [(u9_4, .inl (g.2.1, 61, .inl (fun _ => 0)))]) ++ [(u9_5, .inl (g.2.1, 61, .inl (fun _ => 0)))]) ++ [(u9_6, .inl (g.2.1, 61, .inl (fun _ => 0)))]) ++ [(u9_7, .inl (g.2.2.1, 61, .inr (.inl (fun _ => 0))))]))) ++ (([(q16, .inr (5, [.ref u20_0, .ref u20_3]))] ++ (([(u20_0, .inr (1, [.ref u20_1, .ref u20_2, .int 0]))] ++ [(u20_1, .inl (g.2.2.1, 24, .inr (.inl (fun _ => 0))))]) ++ [(u20_2, .inl (g.2.2.1, 24, .inr (.inl (fun _ => 0))))])) ++ (((([(u20_3, .inr (4, [.ref u20_4, .ref u20_5, .ref u20_6, .ref u20_7, .int 0, .int 0, .int 0, .int 0, .int 8]))] ++ [(u20_4, .inl (g.2.1, 61, .inl (fun _ => 0)))]) ++ [(u20_5, .inl (g.2.1, 61, .inl (fun _ => 0)))]) ++ [(u20_6, .inl (g.2.1, 61, .inl (fun _ => 0)))]) ++ [(u20_7, .inl (g.2.2.1, 61, .inr (.inl (fun _ => 0))))]))) := V
  refine lv_aload_n hx hb dX11_init_26 rfl (lv_at hl 0 rfl) ?_
  refine knew F V 2 [.null, .int 0] tyX2_ok rfl (by decide +kernel) (by decide +kernel : Cond.classLink RX11 19 RX2 ∈ _) (by decide +kernel) (by decide +kernel) (fun j hj => by rcases (show j = 0 ∨ j = 1 by omega) with rfl | rfl <;> rfl) (Nat.le_of_ble_eq_true rfl) (Nat.le_of_ble_eq_true rfl) dX11_init_27 (fun q27 H V => ?_)
  have V : VW g A s.heap H _ ((([(a_this, .inr (7, [.ref q5, .ref q16, .null, .null, .null, .null]))] ++ (([(q5, .inr (5, [.ref u9_0, .ref u9_3]))] ++ (([(u9_0, .inr (1, [.ref u9_1, .ref u9_2, .int 0]))] ++ [(u9_1, .inl (g.2.2.1, 24, .inr (.inl (fun _ => 0))))]) ++ [(u9_2, .inl (g.2.2.1, 24, .inr (.inl (fun _ => 0))))])) ++ (((([(u9_3, .inr (4, [.ref u9_4, .ref u9_5, .ref u9_6, .ref u9_7, .int 0, .int 0, .int 0, .int 0, .int 8]))] ++ [(u9_4, .inl (g.2.1, 61, .inl (fun _ => 0)))]) ++ [(u9_5, .inl (g.2.1, 61, .inl (fun _ => 0)))]) ++ [(u9_6, .inl (g.2.1, 61, .inl (fun _ => 0)))]) ++ [(u9_7, .inl (g.2.2.1, 61, .inr (.inl (fun _ => 0))))]))) ++ (([(q16, .inr (5, [.ref u20_0, .ref u20_3]))] ++ (([(u20_0, .inr (1, [.ref u20_1, .ref u20_2, .int 0]))] ++ [(u20_1, .inl (g.2.2.1, 24, .inr (.inl (fun _ => 0))))]) ++ [(u20_2, .inl (g.2.2.1, 24, .inr (.inl (fun _ => 0))))])) ++ (((([(u20_3, .inr (4, [.ref u20_4, .ref u20_5, .ref u20_6, .ref u20_7, .int 0, .int 0, .int 0, .int 0, .int 8]))] ++ [(u20_4, .inl (g.2.1, 61, .inl (fun _ => 0)))]) ++ [(u20_5, .inl (g.2.1, 61, .inl (fun _ => 0)))]) ++ [(u20_6, .inl (g.2.1, 61, .inl (fun _ => 0)))]) ++ [(u20_7, .inl (g.2.2.1, 61, .inr (.inl (fun _ => 0))))]))) ++ [(q27, .inr (2, [.null, .int 0]))]) := V
  refine lv_dup hx hb dX11_init_30 rfl ?_
  refine kIv (rest := [.ref q27, .ref a_this]) F hl V q27 (kX2_init l g q27) gX11_init_X2_init rfl (by decide +kernel) (by decide +kernel : Cond.methodLink RX11 21 yX2_init ∈ _) (by decide +kernel) rfl hdX2_init.2 ⟨Nat.le_of_ble_eq_true rfl, Nat.le_of_ble_eq_true rfl⟩ ⟨Nat.le_of_ble_eq_true rfl, Nat.le_of_ble_eq_true rfl⟩ (Nat.le_of_ble_eq_true rfl) dX11_init_31 (fun u H locs _ V => ?_)
  obtain ⟨u31_0, u31_1⟩ := u
  have V : VW g A s.heap H locs ((([(a_this, .inr (7, [.ref q5, .ref q16, .null, .null, .null, .null]))] ++ (([(q5, .inr (5, [.ref u9_0, .ref u9_3]))] ++ (([(u9_0, .inr (1, [.ref u9_1, .ref u9_2, .int 0]))] ++ [(u9_1, .inl (g.2.2.1, 24, .inr (.inl (fun _ => 0))))]) ++ [(u9_2, .inl (g.2.2.1, 24, .inr (.inl (fun _ => 0))))])) ++ (((([(u9_3, .inr (4, [.ref u9_4, .ref u9_5, .ref u9_6, .ref u9_7, .int 0, .int 0, .int 0, .int 0, .int 8]))] ++ [(u9_4, .inl (g.2.1, 61, .inl (fun _ => 0)))]) ++ [(u9_5, .inl (g.2.1, 61, .inl (fun _ => 0)))]) ++ [(u9_6, .inl (g.2.1, 61, .inl (fun _ => 0)))]) ++ [(u9_7, .inl (g.2.2.1, 61, .inr (.inl (fun _ => 0))))]))) ++ (([(q16, .inr (5, [.ref u20_0, .ref u20_3]))] ++ (([(u20_0, .inr (1, [.ref u20_1, .ref u20_2, .int 0]))] ++ [(u20_1, .inl (g.2.2.1, 24, .inr (.inl (fun _ => 0))))]) ++ [(u20_2, .inl (g.2.2.1, 24, .inr (.inl (fun _ => 0))))])) ++ (((([(u20_3, .inr (4, [.ref u20_4, .ref u20_5, .ref u20_6, .ref u20_7, .int 0, .int 0, .int 0, .int 0, .int 8]))] ++ [(u20_4, .inl (g.2.1, 61, .inl (fun _ => 0)))]) ++ [(u20_5, .inl (g.2.1, 61, .inl (fun _ => 0)))]) ++ [(u20_6, .inl (g.2.1, 61, .inl (fun _ => 0)))]) ++ [(u20_7, .inl (g.2.2.1, 61, .inr (.inl (fun _ => 0))))]))) ++ (gX2 g q27 u31_0 0 ++ (gAS g u31_0 (kPi u31_1 id) ++ poolW g u31_1 (fun _ => v0)))) := V
  refine kputF F hn0 V 7 2 0 tyX11_ok nmX11 rfl rfl iX11_init_X11 fX11_init_22 (by decide) rfl rfl rfl rfl (Nat.le_of_ble_eq_true rfl) dX11_init_34 (fun H locs V => ?_)
  have V : VW g A s.heap H locs ((([(a_this, .inr (7, [.ref q5, .ref q16, .ref q27, .null, .null, .null]))] ++ (([(q5, .inr (5, [.ref u9_0, .ref u9_3]))] ++ (([(u9_0, .inr (1, [.ref u9_1, .ref u9_2, .int 0]))] ++ [(u9_1, .inl (g.2.2.1, 24, .inr (.inl (fun _ => 0))))]) ++ [(u9_2, .inl (g.2.2.1, 24, .inr (.inl (fun _ => 0))))])) ++ (((([(u9_3, .inr (4, [.ref u9_4, .ref u9_5, .ref u9_6, .ref u9_7, .int 0, .int 0, .int 0, .int 0, .int 8]))] ++ [(u9_4, .inl (g.2.1, 61, .inl (fun _ => 0)))]) ++ [(u9_5, .inl (g.2.1, 61, .inl (fun _ => 0)))]) ++ [(u9_6, .inl (g.2.1, 61, .inl (fun _ => 0)))]) ++ [(u9_7, .inl (g.2.2.1, 61, .inr (.inl (fun _ => 0))))]))) ++ (([(q16, .inr (5, [.ref u20_0, .ref u20_3]))] ++ (([(u20_0, .inr (1, [.ref u20_1, .ref u20_2, .int 0]))] ++ [(u20_1, .inl (g.2.2.1, 24, .inr (.inl (fun _ => 0))))]) ++ [(u20_2, .inl (g.2.2.1, 24, .inr (.inl (fun _ => 0))))])) ++ (((([(u20_3, .inr (4, [.ref u20_4, .ref u20_5, .ref u20_6, .ref u20_7, .int 0, .int 0, .int 0, .int 0, .int 8]))] ++ [(u20_4, .inl (g.2.1, 61, .inl (fun _ => 0)))]) ++ [(u20_5, .inl (g.2.1, 61, .inl (fun _ => 0)))]) ++ [(u20_6, .inl (g.2.1, 61, .inl (fun _ => 0)))]) ++ [(u20_7, .inl (g.2.2.1, 61, .inr (.inl (fun _ => 0))))]))) ++ (gX2 g q27 u31_0 0 ++ (gAS g u31_0 (kPi u31_1 id) ++ poolW g u31_1 (fun _ => v0)))) := V
  refine lv_aload_n hx hb dX11_init_37 rfl (lv_at hl 0 rfl) ?_
  refine knew F V 0 [.null, .int 0] tyX0_ok rfl (by decide +kernel) (by decide +kernel : Cond.classLink RX11 26 RX0 ∈ _) (by decide +kernel) (by decide +kernel) (fun j hj => by rcases (show j = 0 ∨ j = 1 by omega) with rfl | rfl <;> rfl) (Nat.le_of_ble_eq_true rfl) (Nat.le_of_ble_eq_true rfl) dX11_init_38 (fun q38 H V => ?_)
  have V : VW g A s.heap H _ (((([(a_this, .inr (7, [.ref q5, .ref q16, .ref q27, .null, .null, .null]))] ++ (([(q5, .inr (5, [.ref u9_0, .ref u9_3]))] ++ (([(u9_0, .inr (1, [.ref u9_1, .ref u9_2, .int 0]))] ++ [(u9_1, .inl (g.2.2.1, 24, .inr (.inl (fun _ => 0))))]) ++ [(u9_2, .inl (g.2.2.1, 24, .inr (.inl (fun _ => 0))))])) ++ (((([(u9_3, .inr (4, [.ref u9_4, .ref u9_5, .ref u9_6, .ref u9_7, .int 0, .int 0, .int 0, .int 0, .int 8]))] ++ [(u9_4, .inl (g.2.1, 61, .inl (fun _ => 0)))]) ++ [(u9_5, .inl (g.2.1, 61, .inl (fun _ => 0)))]) ++ [(u9_6, .inl (g.2.1, 61, .inl (fun _ => 0)))]) ++ [(u9_7, .inl (g.2.2.1, 61, .inr (.inl (fun _ => 0))))]))) ++ (([(q16, .inr (5, [.ref u20_0, .ref u20_3]))] ++ (([(u20_0, .inr (1, [.ref u20_1, .ref u20_2, .int 0]))] ++ [(u20_1, .inl (g.2.2.1, 24, .inr (.inl (fun _ => 0))))]) ++ [(u20_2, .inl (g.2.2.1, 24, .inr (.inl (fun _ => 0))))])) ++ (((([(u20_3, .inr (4, [.ref u20_4, .ref u20_5, .ref u20_6, .ref u20_7, .int 0, .int 0, .int 0, .int 0, .int 8]))] ++ [(u20_4, .inl (g.2.1, 61, .inl (fun _ => 0)))]) ++ [(u20_5, .inl (g.2.1, 61, .inl (fun _ => 0)))]) ++ [(u20_6, .inl (g.2.1, 61, .inl (fun _ => 0)))]) ++ [(u20_7, .inl (g.2.2.1, 61, .inr (.inl (fun _ => 0))))]))) ++ (gX2 g q27 u31_0 0 ++ (gAS g u31_0 (kPi u31_1 id) ++ poolW g u31_1 (fun _ => v0)))) ++ [(q38, .inr (0, [.null, .int 0]))]) := V
  refine lv_dup hx hb dX11_init_41 rfl ?_
  refine kIn (rest := [.ref q38, .ref a_this]) F hl V q38 (kX0_init l g q38) gX11_init_X0_init_n28 rfl (by decide +kernel) (List.mem_of_getElem? (i := 5) rfl) (by decide +kernel) rfl hdX0_init.2 ⟨Nat.le_of_ble_eq_true rfl, Nat.le_of_ble_eq_true rfl⟩ ⟨Nat.le_of_ble_eq_true rfl, Nat.le_of_ble_eq_true rfl⟩ (Nat.le_of_ble_eq_true rfl) dX11_init_42 (fun u H locs _ V => ?_)
  obtain ⟨u42_0, rfl⟩ : ∃ z, z = u := ⟨_, rfl⟩
  have V : VW g A s.heap H locs (((([(a_this, .inr (7, [.ref q5, .ref q16, .ref q27, .null, .null, .null]))] ++ (([(q5, .inr (5, [.ref u9_0, .ref u9_3]))] ++ (([(u9_0, .inr (1, [.ref u9_1, .ref u9_2, .int 0]))] ++ [(u9_1, .inl (g.2.2.1, 24, .inr (.inl (fun _ => 0))))]) ++ [(u9_2, .inl (g.2.2.1, 24, .inr (.inl (fun _ => 0))))])) ++ (((([(u9_3, .inr (4, [.ref u9_4, .ref u9_5, .ref u9_6, .ref u9_7, .int 0, .int 0, .int 0, .int 0, .int 8]))] ++ [(u9_4, .inl (g.2.1, 61, .inl (fun _ => 0)))]) ++ [(u9_5, .inl (g.2.1, 61, .inl (fun _ => 0)))]) ++ [(u9_6, .inl (g.2.1, 61, .inl (fun _ => 0)))]) ++ [(u9_7, .inl (g.2.2.1, 61, .inr (.inl (fun _ => 0))))]))) ++ (([(q16, .inr (5, [.ref u20_0, .ref u20_3]))] ++ (([(u20_0, .inr (1, [.ref u20_1, .ref u20_2, .int 0]))] ++ [(u20_1, .inl (g.2.2.1, 24, .inr (.inl (fun _ => 0))))]) ++ [(u20_2, .inl (g.2.2.1, 24, .inr (.inl (fun _ => 0))))])) ++ (((([(u20_3, .inr (4, [.ref u20_4, .ref u20_5, .ref u20_6, .ref u20_7, .int 0, .int 0, .int 0, .int 0, .int 8]))] ++ [(u20_4, .inl (g.2.1, 61, .inl (fun _ => 0)))]) ++ [(u20_5, .inl (g.2.1, 61, .inl (fun _ => 0)))]) ++ [(u20_6, .inl (g.2.1, 61, .inl (fun _ => 0)))]) ++ [(u20_7, .inl (g.2.2.1, 61, .inr (.inl (fun _ => 0))))]))) ++ (gX2 g q27 u31_0 0 ++ (gAS g u31_0 (kPi u31_1 id) ++ poolW g u31_1 (fun _ => v0)))) ++ ([(q38, .inr (0, [.ref u42_0, .int 0]))] ++ [(u42_0, .inl (g.2.1, 60, .inl (fun _ => 0)))])) := V
  refine kputF F hn0 V 7 3 0 tyX11_ok nmX11 rfl rfl iX11_init_X11 fX11_init_29 (by decide) rfl rfl rfl rfl (Nat.le_of_ble_eq_true rfl) dX11_init_45 (fun H locs V => ?_)
  have V : VW g A s.heap H locs (((([(a_this, .inr (7, [.ref q5, .ref q16, .ref q27, .ref q38, .null, .null]))] ++ (([(q5, .inr (5, [.ref u9_0, .ref u9_3]))] ++ (([(u9_0, .inr (1, [.ref u9_1, .ref u9_2, .int 0]))] ++ [(u9_1, .inl (g.2.2.1, 24, .inr (.inl (fun _ => 0))))]) ++ [(u9_2, .inl (g.2.2.1, 24, .inr (.inl (fun _ => 0))))])) ++ (((([(u9_3, .inr (4, [.ref u9_4, .ref u9_5, .ref u9_6, .ref u9_7, .int 0, .int 0, .int 0, .int 0, .int 8]))] ++ [(u9_4, .inl (g.2.1, 61, .inl (fun _ => 0)))]) ++ [(u9_5, .inl (g.2.1, 61, .inl (fun _ => 0)))]) ++ [(u9_6, .inl (g.2.1, 61, .inl (fun _ => 0)))]) ++ [(u9_7, .inl (g.2.2.1, 61, .inr (.inl (fun _ => 0))))]))) ++ (([(q16, .inr (5, [.ref u20_0, .ref u20_3]))] ++ (([(u20_0, .inr (1, [.ref u20_1, .ref u20_2, .int 0]))] ++ [(u20_1, .inl (g.2.2.1, 24, .inr (.inl (fun _ => 0))))]) ++ [(u20_2, .inl (g.2.2.1, 24, .inr (.inl (fun _ => 0))))])) ++ (((([(u20_3, .inr (4, [.ref u20_4, .ref u20_5, .ref u20_6, .ref u20_7, .int 0, .int 0, .int 0, .int 0, .int 8]))] ++ [(u20_4, .inl (g.2.1, 61, .inl (fun _ => 0)))]) ++ [(u20_5, .inl (g.2.1, 61, .inl (fun _ => 0)))]) ++ [(u20_6, .inl (g.2.1, 61, .inl (fun _ => 0)))]) ++ [(u20_7, .inl (g.2.2.1, 61, .inr (.inl (fun _ => 0))))]))) ++ (gX2 g q27 u31_0 0 ++ (gAS g u31_0 (kPi u31_1 id) ++ poolW g u31_1 (fun _ => v0)))) ++ ([(q38, .inr (0, [.ref u42_0, .int 0]))] ++ [(u42_0, .inl (g.2.1, 60, .inl (fun _ => 0)))])) := V
  refine lv_aload_n hx hb dX11_init_48 rfl (lv_at hl 0 rfl) ?_
  refine knew F V 3 [.long 0, .int 0, .int 0, .int 0, .long 0, .int 0] tyX4_ok rfl (by decide +kernel) (by decide +kernel : Cond.classLink RX11 33 RX4 ∈ _) (by decide +kernel) (by decide +kernel) (fun j hj => by rcases (show j = 0 ∨ j = 1 ∨ j = 2 ∨ j = 3 ∨ j = 4 ∨ j = 5 by omega) with rfl | rfl | rfl | rfl | rfl | rfl <;> rfl) (Nat.le_of_ble_eq_true rfl) (Nat.le_of_ble_eq_true rfl) dX11_init_49 (fun q49 H V => ?_)
  have V : VW g A s.heap H _ ((((([(a_this, .inr (7, [.ref q5, .ref q16, .ref q27, .ref q38, .null, .null]))] ++ (([(q5, .inr (5, [.ref u9_0, .ref u9_3]))] ++ (([(u9_0, .inr (1, [.ref u9_1, .ref u9_2, .int 0]))] ++ [(u9_1, .inl (g.2.2.1, 24, .inr (.inl (fun _ => 0))))]) ++ [(u9_2, .inl (g.2.2.1, 24, .inr (.inl (fun _ => 0))))])) ++ (((([(u9_3, .inr (4, [.ref u9_4, .ref u9_5, .ref u9_6, .ref u9_7, .int 0, .int 0, .int 0, .int 0, .int 8]))] ++ [(u9_4, .inl (g.2.1, 61, .inl (fun _ => 0)))]) ++ [(u9_5, .inl (g.2.1, 61, .inl (fun _ => 0)))]) ++ [(u9_6, .inl (g.2.1, 61, .inl (fun _ => 0)))]) ++ [(u9_7, .inl (g.2.2.1, 61, .inr (.inl (fun _ => 0))))]))) ++ (([(q16, .inr (5, [.ref u20_0, .ref u20_3]))] ++ (([(u20_0, .inr (1, [.ref u20_1, .ref u20_2, .int 0]))] ++ [(u20_1, .inl (g.2.2.1, 24, .inr (.inl (fun _ => 0))))]) ++ [(u20_2, .inl (g.2.2.1, 24, .inr (.inl (fun _ => 0))))])) ++ (((([(u20_3, .inr (4, [.ref u20_4, .ref u20_5, .ref u20_6, .ref u20_7, .int 0, .int 0, .int 0, .int 0, .int 8]))] ++ [(u20_4, .inl (g.2.1, 61, .inl (fun _ => 0)))]) ++ [(u20_5, .inl (g.2.1, 61, .inl (fun _ => 0)))]) ++ [(u20_6, .inl (g.2.1, 61, .inl (fun _ => 0)))]) ++ [(u20_7, .inl (g.2.2.1, 61, .inr (.inl (fun _ => 0))))]))) ++ (gX2 g q27 u31_0 0 ++ (gAS g u31_0 (kPi u31_1 id) ++ poolW g u31_1 (fun _ => v0)))) ++ ([(q38, .inr (0, [.ref u42_0, .int 0]))] ++ [(u42_0, .inl (g.2.1, 60, .inl (fun _ => 0)))])) ++ [(q49, .inr (3, [.long 0, .int 0, .int 0, .int 0, .long 0, .int 0]))]) := V
  refine lv_dup hx hb dX11_init_52 rfl ?_
  refine kIn (rest := [.ref q49, .ref a_this]) F hl V q49 (kX4_init l g q49) gX11_init_X4_init_n35 rfl (by decide +kernel) (List.mem_of_getElem? (i := 6) rfl) (by decide +kernel) rfl hdX4_init.2 ⟨Nat.le_of_ble_eq_true rfl, Nat.le_of_ble_eq_true rfl⟩ ⟨Nat.le_of_ble_eq_true rfl, Nat.le_of_ble_eq_true rfl⟩ (Nat.le_of_ble_eq_true rfl) dX11_init_53 (fun u H locs _ V => ?_)
  have V : VW g A s.heap H locs ((((([(a_this, .inr (7, [.ref q5, .ref q16, .ref q27, .ref q38, .null, .null]))] ++ (([(q5, .inr (5, [.ref u9_0, .ref u9_3]))] ++ (([(u9_0, .inr (1, [.ref u9_1, .ref u9_2, .int 0]))] ++ [(u9_1, .inl (g.2.2.1, 24, .inr (.inl (fun _ => 0))))]) ++ [(u9_2, .inl (g.2.2.1, 24, .inr (.inl (fun _ => 0))))])) ++ (((([(u9_3, .inr (4, [.ref u9_4, .ref u9_5, .ref u9_6, .ref u9_7, .int 0, .int 0, .int 0, .int 0, .int 8]))] ++ [(u9_4, .inl (g.2.1, 61, .inl (fun _ => 0)))]) ++ [(u9_5, .inl (g.2.1, 61, .inl (fun _ => 0)))]) ++ [(u9_6, .inl (g.2.1, 61, .inl (fun _ => 0)))]) ++ [(u9_7, .inl (g.2.2.1, 61, .inr (.inl (fun _ => 0))))]))) ++ (([(q16, .inr (5, [.ref u20_0, .ref u20_3]))] ++ (([(u20_0, .inr (1, [.ref u20_1, .ref u20_2, .int 0]))] ++ [(u20_1, .inl (g.2.2.1, 24, .inr (.inl (fun _ => 0))))]) ++ [(u20_2, .inl (g.2.2.1, 24, .inr (.inl (fun _ => 0))))])) ++ (((([(u20_3, .inr (4, [.ref u20_4, .ref u20_5, .ref u20_6, .ref u20_7, .int 0, .int 0, .int 0, .int 0, .int 8]))] ++ [(u20_4, .inl (g.2.1, 61, .inl (fun _ => 0)))]) ++ [(u20_5, .inl (g.2.1, 61, .inl (fun _ => 0)))]) ++ [(u20_6, .inl (g.2.1, 61, .inl (fun _ => 0)))]) ++ [(u20_7, .inl (g.2.2.1, 61, .inr (.inl (fun _ => 0))))]))) ++ (gX2 g q27 u31_0 0 ++ (gAS g u31_0 (kPi u31_1 id) ++ poolW g u31_1 (fun _ => v0)))) ++ ([(q38, .inr (0, [.ref u42_0, .int 0]))] ++ [(u42_0, .inl (g.2.1, 60, .inl (fun _ => 0)))])) ++ ([(q49, .inr (3, [.long 0, .int 0, .int 0, .int 0, .long 0, .int 0]))])) := V
  refine kputF F hn0 V 7 4 0 tyX11_ok nmX11 rfl rfl iX11_init_X11 fX11_init_36 (by decide) rfl rfl rfl rfl (Nat.le_of_ble_eq_true rfl) dX11_init_56 (fun H locs V => ?_)
  have V : VW g A s.heap H locs ((((([(a_this, .inr (7, [.ref q5, .ref q16, .ref q27, .ref q38, .ref q49, .null]))] ++ (([(q5, .inr (5, [.ref u9_0, .ref u9_3]))] ++ (([(u9_0, .inr (1, [.ref u9_1, .ref u9_2, .int 0]))] ++ [(u9_1, .inl (g.2.2.1, 24, .inr (.inl (fun _ => 0))))]) ++ [(u9_2, .inl (g.2.2.1, 24, .inr (.inl (fun _ => 0))))])) ++ (((([(u9_3, .inr (4, [.ref u9_4, .ref u9_5, .ref u9_6, .ref u9_7, .int 0, .int 0, .int 0, .int 0, .int 8]))] ++ [(u9_4, .inl (g.2.1, 61, .inl (fun _ => 0)))]) ++ [(u9_5, .inl (g.2.1, 61, .inl (fun _ => 0)))]) ++ [(u9_6, .inl (g.2.1, 61, .inl (fun _ => 0)))]) ++ [(u9_7, .inl (g.2.2.1, 61, .inr (.inl (fun _ => 0))))]))) ++ (([(q16, .inr (5, [.ref u20_0, .ref u20_3]))] ++ (([(u20_0, .inr (1, [.ref u20_1, .ref u20_2, .int 0]))] ++ [(u20_1, .inl (g.2.2.1, 24, .inr (.inl (fun _ => 0))))]) ++ [(u20_2, .inl (g.2.2.1, 24, .inr (.inl (fun _ => 0))))])) ++ (((([(u20_3, .inr (4, [.ref u20_4, .ref u20_5, .ref u20_6, .ref u20_7, .int 0, .int 0, .int 0, .int 0, .int 8]))] ++ [(u20_4, .inl (g.2.1, 61, .inl (fun _ => 0)))]) ++ [(u20_5, .inl (g.2.1, 61, .inl (fun _ => 0)))]) ++ [(u20_6, .inl (g.2.1, 61, .inl (fun _ => 0)))]) ++ [(u20_7, .inl (g.2.2.1, 61, .inr (.inl (fun _ => 0))))]))) ++ (gX2 g q27 u31_0 0 ++ (gAS g u31_0 (kPi u31_1 id) ++ poolW g u31_1 (fun _ => v0)))) ++ ([(q38, .inr (0, [.ref u42_0, .int 0]))] ++ [(u42_0, .inl (g.2.1, 60, .inl (fun _ => 0)))])) ++ ([(q49, .inr (3, [.long 0, .int 0, .int 0, .int 0, .long 0, .int 0]))])) := V
  refine lv_aload_n hx hb dX11_init_59 rfl (lv_at hl 0 rfl) ?_
  refine knew F V 6 [.null, .null, .int 0] tyX10_ok rfl (by decide +kernel) (by decide +kernel : Cond.classLink RX11 40 RX10 ∈ _) (by decide +kernel) (by decide +kernel) (fun j hj => by rcases (show j = 0 ∨ j = 1 ∨ j = 2 by omega) with rfl | rfl | rfl <;> rfl) (Nat.le_of_ble_eq_true rfl) (Nat.le_of_ble_eq_true rfl) dX11_init_60 (fun q60 H V => ?_)
  have V : VW g A s.heap H _ (((((([(a_this, .inr (7, [.ref q5, .ref q16, .ref q27, .ref q38, .ref q49, .null]))] ++ (([(q5, .inr (5, [.ref u9_0, .ref u9_3]))] ++ (([(u9_0, .inr (1, [.ref u9_1, .ref u9_2, .int 0]))] ++ [(u9_1, .inl (g.2.2.1, 24, .inr (.inl (fun _ => 0))))]) ++ [(u9_2, .inl (g.2.2.1, 24, .inr (.inl (fun _ => 0))))])) ++ (((([(u9_3, .inr (4, [.ref u9_4, .ref u9_5, .ref u9_6, .ref u9_7, .int 0, .int 0, .int 0, .int 0, .int 8]))] ++ [(u9_4, .inl (g.2.1, 61, .inl (fun _ => 0)))]) ++ [(u9_5, .inl (g.2.1, 61, .inl (fun _ => 0)))]) ++ [(u9_6, .inl (g.2.1, 61, .inl (fun _ => 0)))]) ++ [(u9_7, .inl (g.2.2.1, 61, .inr (.inl (fun _ => 0))))]))) ++ (([(q16, .inr (5, [.ref u20_0, .ref u20_3]))] ++ (([(u20_0, .inr (1, [.ref u20_1, .ref u20_2, .int 0]))] ++ [(u20_1, .inl (g.2.2.1, 24, .inr (.inl (fun _ => 0))))]) ++ [(u20_2, .inl (g.2.2.1, 24, .inr (.inl (fun _ => 0))))])) ++ (((([(u20_3, .inr (4, [.ref u20_4, .ref u20_5, .ref u20_6, .ref u20_7, .int 0, .int 0, .int 0, .int 0, .int 8]))] ++ [(u20_4, .inl (g.2.1, 61, .inl (fun _ => 0)))]) ++ [(u20_5, .inl (g.2.1, 61, .inl (fun _ => 0)))]) ++ [(u20_6, .inl (g.2.1, 61, .inl (fun _ => 0)))]) ++ [(u20_7, .inl (g.2.2.1, 61, .inr (.inl (fun _ => 0))))]))) ++ (gX2 g q27 u31_0 0 ++ (gAS g u31_0 (kPi u31_1 id) ++ poolW g u31_1 (fun _ => v0)))) ++ ([(q38, .inr (0, [.ref u42_0, .int 0]))] ++ [(u42_0, .inl (g.2.1, 60, .inl (fun _ => 0)))])) ++ ([(q49, .inr (3, [.long 0, .int 0, .int 0, .int 0, .long 0, .int 0]))])) ++ [(q60, .inr (6, [.null, .null, .int 0]))]) := V
  refine lv_dup hx hb dX11_init_63 rfl ?_
  refine kIn (rest := [.ref q60, .ref a_this]) F hl V q60 (kX10_init l g q60) gX11_init_X10_init_n42 rfl (by decide +kernel) (List.mem_of_getElem? (i := 7) rfl) (by decide +kernel) rfl hdX10_init.2 ⟨Nat.le_of_ble_eq_true rfl, Nat.le_of_ble_eq_true rfl⟩ ⟨Nat.le_of_ble_eq_true rfl, Nat.le_of_ble_eq_true rfl⟩ (Nat.le_of_ble_eq_true rfl) dX11_init_64 (fun u H locs _ V => ?_)
  obtain ⟨u64_0, u64_1⟩ := u
  have V : VW g A s.heap H locs (((((([(a_this, .inr (7, [.ref q5, .ref q16, .ref q27, .ref q38, .ref q49, .null]))] ++ (([(q5, .inr (5, [.ref u9_0, .ref u9_3]))] ++ (([(u9_0, .inr (1, [.ref u9_1, .ref u9_2, .int 0]))] ++ [(u9_1, .inl (g.2.2.1, 24, .inr (.inl (fun _ => 0))))]) ++ [(u9_2, .inl (g.2.2.1, 24, .inr (.inl (fun _ => 0))))])) ++ (((([(u9_3, .inr (4, [.ref u9_4, .ref u9_5, .ref u9_6, .ref u9_7, .int 0, .int 0, .int 0, .int 0, .int 8]))] ++ [(u9_4, .inl (g.2.1, 61, .inl (fun _ => 0)))]) ++ [(u9_5, .inl (g.2.1, 61, .inl (fun _ => 0)))]) ++ [(u9_6, .inl (g.2.1, 61, .inl (fun _ => 0)))]) ++ [(u9_7, .inl (g.2.2.1, 61, .inr (.inl (fun _ => 0))))]))) ++ (([(q16, .inr (5, [.ref u20_0, .ref u20_3]))] ++ (([(u20_0, .inr (1, [.ref u20_1, .ref u20_2, .int 0]))] ++ [(u20_1, .inl (g.2.2.1, 24, .inr (.inl (fun _ => 0))))]) ++ [(u20_2, .inl (g.2.2.1, 24, .inr (.inl (fun _ => 0))))])) ++ (((([(u20_3, .inr (4, [.ref u20_4, .ref u20_5, .ref u20_6, .ref u20_7, .int 0, .int 0, .int 0, .int 0, .int 8]))] ++ [(u20_4, .inl (g.2.1, 61, .inl (fun _ => 0)))]) ++ [(u20_5, .inl (g.2.1, 61, .inl (fun _ => 0)))]) ++ [(u20_6, .inl (g.2.1, 61, .inl (fun _ => 0)))]) ++ [(u20_7, .inl (g.2.2.1, 61, .inr (.inl (fun _ => 0))))]))) ++ (gX2 g q27 u31_0 0 ++ (gAS g u31_0 (kPi u31_1 id) ++ poolW g u31_1 (fun _ => v0)))) ++ ([(q38, .inr (0, [.ref u42_0, .int 0]))] ++ [(u42_0, .inl (g.2.1, 60, .inl (fun _ => 0)))])) ++ ([(q49, .inr (3, [.long 0, .int 0, .int 0, .int 0, .long 0, .int 0]))])) ++ (([(q60, .inr (6, [.ref u64_0, .ref u64_1, .int 0]))] ++ [(u64_0, .inl (g.2.1, 61, .inl (fun _ => 0)))]) ++ [(u64_1, .inl (g.2.1, 240, .inl (fun _ => 0)))])) := V
  refine kputF F hn0 V 7 5 0 tyX11_ok nmX11 rfl rfl iX11_init_X11 fX11_init_43 (by decide) rfl rfl rfl rfl (Nat.le_of_ble_eq_true rfl) dX11_init_67 (fun H locs V => ?_)
  have V : VW g A s.heap H locs (((((([(a_this, .inr (7, [.ref q5, .ref q16, .ref q27, .ref q38, .ref q49, .ref q60]))] ++ (([(q5, .inr (5, [.ref u9_0, .ref u9_3]))] ++ (([(u9_0, .inr (1, [.ref u9_1, .ref u9_2, .int 0]))] ++ [(u9_1, .inl (g.2.2.1, 24, .inr (.inl (fun _ => 0))))]) ++ [(u9_2, .inl (g.2.2.1, 24, .inr (.inl (fun _ => 0))))])) ++ (((([(u9_3, .inr (4, [.ref u9_4, .ref u9_5, .ref u9_6, .ref u9_7, .int 0, .int 0, .int 0, .int 0, .int 8]))] ++ [(u9_4, .inl (g.2.1, 61, .inl (fun _ => 0)))]) ++ [(u9_5, .inl (g.2.1, 61, .inl (fun _ => 0)))]) ++ [(u9_6, .inl (g.2.1, 61, .inl (fun _ => 0)))]) ++ [(u9_7, .inl (g.2.2.1, 61, .inr (.inl (fun _ => 0))))]))) ++ (([(q16, .inr (5, [.ref u20_0, .ref u20_3]))] ++ (([(u20_0, .inr (1, [.ref u20_1, .ref u20_2, .int 0]))] ++ [(u20_1, .inl (g.2.2.1, 24, .inr (.inl (fun _ => 0))))]) ++ [(u20_2, .inl (g.2.2.1, 24, .inr (.inl (fun _ => 0))))])) ++ (((([(u20_3, .inr (4, [.ref u20_4, .ref u20_5, .ref u20_6, .ref u20_7, .int 0, .int 0, .int 0, .int 0, .int 8]))] ++ [(u20_4, .inl (g.2.1, 61, .inl (fun _ => 0)))]) ++ [(u20_5, .inl (g.2.1, 61, .inl (fun _ => 0)))]) ++ [(u20_6, .inl (g.2.1, 61, .inl (fun _ => 0)))]) ++ [(u20_7, .inl (g.2.2.1, 61, .inr (.inl (fun _ => 0))))]))) ++ (gX2 g q27 u31_0 0 ++ (gAS g u31_0 (kPi u31_1 id) ++ poolW g u31_1 (fun _ => v0)))) ++ ([(q38, .inr (0, [.ref u42_0, .int 0]))] ++ [(u42_0, .inl (g.2.1, 60, .inl (fun _ => 0)))])) ++ ([(q49, .inr (3, [.long 0, .int 0, .int 0, .int 0, .long 0, .int 0]))])) ++ (([(q60, .inr (6, [.ref u64_0, .ref u64_1, .int 0]))] ++ [(u64_0, .inl (g.2.1, 61, .inl (fun _ => 0)))]) ++ [(u64_1, .inl (g.2.1, 240, .inl (fun _ => 0)))])) := V
  exact ret _ _ _ _ _ _ _ _ _ _ _ _ _ _ _ _ _ _ _ _ _ _ _ _ _ _ _ _ _ _ _ dX11_init_70 V trivial
