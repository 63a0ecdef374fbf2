theorem k_pW {α : Type} (n11 x8 x1 x7 y8 y1 y7 h2 as T bf rd wr a3 a4 a5 a6 a7 a8 a9 : List α) : ((((((((([] ++ ((((((n11 ++ ((x8 ++ x1) ++ x7)) ++ ((y8 ++ y1) ++ y7)) ++ (h2 ++ (as ++ T))) ++ bf) ++ rd) ++ wr))) ++ a3) ++ a4) ++ a5) ++ a6) ++ a7) ++ a8) ++ a9).Perm (((a3 ++ (a4 ++ (a5 ++ (a6 ++ (a7 ++ (a8 ++ (a9 ++ (n11 ++ (x8 ++ (x7 ++ (x1 ++ (h2 ++ (bf ++ (rd ++ (y8 ++ (y1 ++ (y7 ++ as))))))))))))))))) ++ T) ++ wr) := by
  classical
  rw [List.perm_iff_count]
  intro a
  simp only [List.count_append, List.count_nil]
  omega
theorem whole_start {p : Program} {e : Env} {s : State} {m : MethodId} {below : List Frame} {meth : Method} {c : Code} (l : Launch) (hflags : l.flags = flags0) {b L : Nat} {xs : Nat → Int32} (hL : L ≤ 260) (C0 : lw_At p s m meth c b L xs) : W p l e room_1 s m #[Value.ref b] below meth c s.heap [] 0 0 (lw_Z below #[Value.ref b] s) (entryFrame m ([Value.ref b] : List Value).toArray 12) := by
  obtain ⟨hx, hb, hr, hml, hown, hts, hX, hbl, hlocks, hgv⟩ := C0
  obtain ⟨g, hK⟩ := st_K hts
  have hZ := st_ZZ hts hgv
  have hbA : ¬ (fun q : Nat => s.heap.size ≤ q) b := Nat.not_le.mpr hbl
  have F : FX p s m meth c #[Value.ref b] cL_law 12 RL ret lw_tbl g (fun q : Nat => s.heap.size ≤ q) := ⟨hx, hb, hml, hown, hts, hK, fun q h => h, hlocks, hr, hZ⟩
  have hl := lv_entry ([.ref b]) (n := 12) (Nat.le_of_ble_eq_true rfl)
  rw [lg_entry_eq]
  generalize (lg_sl ([.ref b]) ++ List.replicate (12 - (lg_sl ([.ref b])).length) Slot.unset).toArray = ls at hl ⊢
  have hl : lv_has ls 12 [(0, .ref b)] := hl
  have V : VW g (fun q : Nat => s.heap.size ≤ q) s.heap s.heap [] [] := ⟨fun k q h => by simp at h, ⟨fun i j p q h => by simp at h, fun k q h => by simp at h⟩, va_S.rf⟩
  refine knew F V 7 [.null, .null, .null, .null, .null, .null] tyX11_ok rfl in_wsX110 (st_l (.classLink RL 31 RX11) (by simp)) (st_i (.instantiable RX11 6) (by simp)) (st_l (.initialized RX11) (by simp)) (fun j hj => by rcases (show j = 0 ∨ j = 1 ∨ j = 2 ∨ j = 3 ∨ j = 4 ∨ j = 5 by omega) with rfl | rfl | rfl | rfl | rfl | rfl <;> rfl) (Nat.le_of_ble_eq_true rfl) (Nat.le_of_ble_eq_true rfl) dL_law_0 (fun q0 H V => ?_)
  have V : VW g (fun q : Nat => s.heap.size ≤ q) s.heap H _ ([] ++ [(q0, .inr (7, [.null, .null, .null, .null, .null, .null]))]) := V
  refine lv_dup hx hb dL_law_3 rfl ?_
  refine kIv (wr := []) (rest := [.ref q0]) F hl V q0 (kX11_init l g q0) gL_law_X11_init rfl (st_l (.initialized RX11) (by simp)) (st_l (.methodLink RL 112 yX11_init) (by simp)) (st_l (.instanceMethod yX11_init) (by simp)) rfl hdX11_init.2 ⟨Nat.le_of_ble_eq_true rfl, Nat.le_of_ble_eq_true rfl⟩ ⟨Nat.le_of_ble_eq_true rfl, Nat.le_of_ble_eq_true rfl⟩ (Nat.le_of_ble_eq_true rfl) dL_law_4 (fun u H locs _ V => ?_)
  obtain ⟨z0, z1, z2, z3, z4, z5, z6, z7, z8, z9, z10, z11, z12, z13, z14, z15, z16, z17, z18, z19, z20, z21, z22, z23, z24, z25, z26⟩ := u
  have V : VW g (fun q : Nat => s.heap.size ≤ q) s.heap H locs ([] ++ ((((((gX11 g q0 z0 z9 z18 z21 z23 z24 ++ ((gX8 g z0 z1 z4 ++ gX1 g z1 z2 z3 (fun _ => 0) (fun _ => 0) 0) ++ gX7 g z4 z5 z6 z7 z8 (fun _ => 0) (fun _ => 0) (fun _ => 0) (fun _ => 0) 0 0 0 0 8)) ++ ((gX8 g z9 z10 z13 ++ gX1 g z10 z11 z12 (fun _ => 0) (fun _ => 0) 0) ++ gX7 g z13 z14 z15 z16 z17 (fun _ => 0) (fun _ => 0) (fun _ => 0) (fun _ => 0) 0 0 0 0 8)) ++ (gX2 g z18 z19 0 ++ (gAS g z19 (kPi z20 id) ++ poolW g z20 (fun _ => v0)))) ++ gX0 g z21 z22 (fun _ => 0) 0) ++ gX4 g z23 0 0 0 0 0 0) ++ gX10 g z24 z25 z26 (fun _ => 0) (fun _ => 0) 0)) := V
  refine lv_astore_n hx hb dL_law_7 rfl hl (by decide) rfl (fun ls hl => ?_)
  have hl : lv_has ls 12 [(1, .ref q0), (0, .ref b)] := hl
  refine lv_bipush (v := 35) hx hb dL_law_8 (by decide) ?_
  refine knewi F V (st_w (.arrayClass .int) (by simp)) 35 (by decide) rfl (Nat.le_of_ble_eq_true rfl) (Nat.le_of_ble_eq_true rfl) (Nat.le_of_ble_eq_true rfl) dL_law_10 (fun q10 H V => ?_)
  have V : VW g (fun q : Nat => s.heap.size ≤ q) s.heap H _ (([] ++ ((((((gX11 g q0 z0 z9 z18 z21 z23 z24 ++ ((gX8 g z0 z1 z4 ++ gX1 g z1 z2 z3 (fun _ => 0) (fun _ => 0) 0) ++ gX7 g z4 z5 z6 z7 z8 (fun _ => 0) (fun _ => 0) (fun _ => 0) (fun _ => 0) 0 0 0 0 8)) ++ ((gX8 g z9 z10 z13 ++ gX1 g z10 z11 z12 (fun _ => 0) (fun _ => 0) 0) ++ gX7 g z13 z14 z15 z16 z17 (fun _ => 0) (fun _ => 0) (fun _ => 0) (fun _ => 0) 0 0 0 0 8)) ++ (gX2 g z18 z19 0 ++ (gAS g z19 (kPi z20 id) ++ poolW g z20 (fun _ => v0)))) ++ gX0 g z21 z22 (fun _ => 0) 0) ++ gX4 g z23 0 0 0 0 0 0) ++ gX10 g z24 z25 z26 (fun _ => 0) (fun _ => 0) 0)) ++ gAI g q10 35 (fun _ => 0)) := V
  refine lv_astore_n hx hb dL_law_12 rfl hl (by decide) rfl (fun ls hl => ?_)
  have hl : lv_has ls 12 [(2, .ref q10), (1, .ref q0), (0, .ref b)] := hl
  refine lv_bipush (v := 7) hx hb dL_law_13 (by decide) ?_
  refine knewl F V (st_w (.arrayClass .long) (by simp)) 7 (by decide) rfl (Nat.le_of_ble_eq_true rfl) (Nat.le_of_ble_eq_true rfl) (Nat.le_of_ble_eq_true rfl) dL_law_15 (fun q15 H V => ?_)
  have V : VW g (fun q : Nat => s.heap.size ≤ q) s.heap H _ ((([] ++ ((((((gX11 g q0 z0 z9 z18 z21 z23 z24 ++ ((gX8 g z0 z1 z4 ++ gX1 g z1 z2 z3 (fun _ => 0) (fun _ => 0) 0) ++ gX7 g z4 z5 z6 z7 z8 (fun _ => 0) (fun _ => 0) (fun _ => 0) (fun _ => 0) 0 0 0 0 8)) ++ ((gX8 g z9 z10 z13 ++ gX1 g z10 z11 z12 (fun _ => 0) (fun _ => 0) 0) ++ gX7 g z13 z14 z15 z16 z17 (fun _ => 0) (fun _ => 0) (fun _ => 0) (fun _ => 0) 0 0 0 0 8)) ++ (gX2 g z18 z19 0 ++ (gAS g z19 (kPi z20 id) ++ poolW g z20 (fun _ => v0)))) ++ gX0 g z21 z22 (fun _ => 0) 0) ++ gX4 g z23 0 0 0 0 0 0) ++ gX10 g z24 z25 z26 (fun _ => 0) (fun _ => 0) 0)) ++ gAI g q10 35 (fun _ => 0)) ++ gAJ g q15 7 (fun _ => 0)) := V
  refine lv_astore_n hx hb dL_law_17 rfl hl (by decide) rfl (fun ls hl => ?_)
  have hl : lv_has ls 12 [(3, .ref q15), (2, .ref q10), (1, .ref q0), (0, .ref b)] := hl
  refine lv_bipush (v := 32) hx hb dL_law_18 (by decide) ?_
  refine knewi F V (st_w (.arrayClass .int) (by simp)) 32 (by decide) rfl (Nat.le_of_ble_eq_true rfl) (Nat.le_of_ble_eq_true rfl) (Nat.le_of_ble_eq_true rfl) dL_law_20 (fun q20 H V => ?_)
  have V : VW g (fun q : Nat => s.heap.size ≤ q) s.heap H _ (((([] ++ ((((((gX11 g q0 z0 z9 z18 z21 z23 z24 ++ ((gX8 g z0 z1 z4 ++ gX1 g z1 z2 z3 (fun _ => 0) (fun _ => 0) 0) ++ gX7 g z4 z5 z6 z7 z8 (fun _ => 0) (fun _ => 0) (fun _ => 0) (fun _ => 0) 0 0 0 0 8)) ++ ((gX8 g z9 z10 z13 ++ gX1 g z10 z11 z12 (fun _ => 0) (fun _ => 0) 0) ++ gX7 g z13 z14 z15 z16 z17 (fun _ => 0) (fun _ => 0) (fun _ => 0) (fun _ => 0) 0 0 0 0 8)) ++ (gX2 g z18 z19 0 ++ (gAS g z19 (kPi z20 id) ++ poolW g z20 (fun _ => v0)))) ++ gX0 g z21 z22 (fun _ => 0) 0) ++ gX4 g z23 0 0 0 0 0 0) ++ gX10 g z24 z25 z26 (fun _ => 0) (fun _ => 0) 0)) ++ gAI g q10 35 (fun _ => 0)) ++ gAJ g q15 7 (fun _ => 0)) ++ gAI g q20 32 (fun _ => 0)) := V
  refine lv_astore hx hb dL_law_22 hl (by decide) rfl (fun ls hl => ?_)
  have hl : lv_has ls 12 [(4, .ref q20), (3, .ref q15), (2, .ref q10), (1, .ref q0), (0, .ref b)] := hl
  refine lv_bipush (v := 32) hx hb dL_law_24 (by decide) ?_
  refine knewi F V (st_w (.arrayClass .int) (by simp)) 32 (by decide) rfl (Nat.le_of_ble_eq_true rfl) (Nat.le_of_ble_eq_true rfl) (Nat.le_of_ble_eq_true rfl) dL_law_26 (fun q26 H V => ?_)
  have V : VW g (fun q : Nat => s.heap.size ≤ q) s.heap H _ ((((([] ++ ((((((gX11 g q0 z0 z9 z18 z21 z23 z24 ++ ((gX8 g z0 z1 z4 ++ gX1 g z1 z2 z3 (fun _ => 0) (fun _ => 0) 0) ++ gX7 g z4 z5 z6 z7 z8 (fun _ => 0) (fun _ => 0) (fun _ => 0) (fun _ => 0) 0 0 0 0 8)) ++ ((gX8 g z9 z10 z13 ++ gX1 g z10 z11 z12 (fun _ => 0) (fun _ => 0) 0) ++ gX7 g z13 z14 z15 z16 z17 (fun _ => 0) (fun _ => 0) (fun _ => 0) (fun _ => 0) 0 0 0 0 8)) ++ (gX2 g z18 z19 0 ++ (gAS g z19 (kPi z20 id) ++ poolW g z20 (fun _ => v0)))) ++ gX0 g z21 z22 (fun _ => 0) 0) ++ gX4 g z23 0 0 0 0 0 0) ++ gX10 g z24 z25 z26 (fun _ => 0) (fun _ => 0) 0)) ++ gAI g q10 35 (fun _ => 0)) ++ gAJ g q15 7 (fun _ => 0)) ++ gAI g q20 32 (fun _ => 0)) ++ gAI g q26 32 (fun _ => 0)) := V
  refine lv_astore hx hb dL_law_28 hl (by decide) rfl (fun ls hl => ?_)
  have hl : lv_has ls 12 [(5, .ref q26), (4, .ref q20), (3, .ref q15), (2, .ref q10), (1, .ref q0), (0, .ref b)] := hl
  refine lv_bipush (v := 32) hx hb dL_law_30 (by decide) ?_
  refine knewi F V (st_w (.arrayClass .int) (by simp)) 32 (by decide) rfl (Nat.le_of_ble_eq_true rfl) (Nat.le_of_ble_eq_true rfl) (Nat.le_of_ble_eq_true rfl) dL_law_32 (fun q32 H V => ?_)
  have V : VW g (fun q : Nat => s.heap.size ≤ q) s.heap H _ (((((([] ++ ((((((gX11 g q0 z0 z9 z18 z21 z23 z24 ++ ((gX8 g z0 z1 z4 ++ gX1 g z1 z2 z3 (fun _ => 0) (fun _ => 0) 0) ++ gX7 g z4 z5 z6 z7 z8 (fun _ => 0) (fun _ => 0) (fun _ => 0) (fun _ => 0) 0 0 0 0 8)) ++ ((gX8 g z9 z10 z13 ++ gX1 g z10 z11 z12 (fun _ => 0) (fun _ => 0) 0) ++ gX7 g z13 z14 z15 z16 z17 (fun _ => 0) (fun _ => 0) (fun _ => 0) (fun _ => 0) 0 0 0 0 8)) ++ (gX2 g z18 z19 0 ++ (gAS g z19 (kPi z20 id) ++ poolW g z20 (fun _ => v0)))) ++ gX0 g z21 z22 (fun _ => 0) 0) ++ gX4 g z23 0 0 0 0 0 0) ++ gX10 g z24 z25 z26 (fun _ => 0) (fun _ => 0) 0)) ++ gAI g q10 35 (fun _ => 0)) ++ gAJ g q15 7 (fun _ => 0)) ++ gAI g q20 32 (fun _ => 0)) ++ gAI g q26 32 (fun _ => 0)) ++ gAI g q32 32 (fun _ => 0)) := V
  refine lv_astore hx hb dL_law_34 hl (by decide) rfl (fun ls hl => ?_)
  have hl : lv_has ls 12 [(6, .ref q32), (5, .ref q26), (4, .ref q20), (3, .ref q15), (2, .ref q10), (1, .ref q0), (0, .ref b)] := hl
  refine lv_bipush (v := 32) hx hb dL_law_36 (by decide) ?_
  refine knewl F V (st_w (.arrayClass .long) (by simp)) 32 (by decide) rfl (Nat.le_of_ble_eq_true rfl) (Nat.le_of_ble_eq_true rfl) (Nat.le_of_ble_eq_true rfl) dL_law_38 (fun q38 H V => ?_)
  have V : VW g (fun q : Nat => s.heap.size ≤ q) s.heap H _ ((((((([] ++ ((((((gX11 g q0 z0 z9 z18 z21 z23 z24 ++ ((gX8 g z0 z1 z4 ++ gX1 g z1 z2 z3 (fun _ => 0) (fun _ => 0) 0) ++ gX7 g z4 z5 z6 z7 z8 (fun _ => 0) (fun _ => 0) (fun _ => 0) (fun _ => 0) 0 0 0 0 8)) ++ ((gX8 g z9 z10 z13 ++ gX1 g z10 z11 z12 (fun _ => 0) (fun _ => 0) 0) ++ gX7 g z13 z14 z15 z16 z17 (fun _ => 0) (fun _ => 0) (fun _ => 0) (fun _ => 0) 0 0 0 0 8)) ++ (gX2 g z18 z19 0 ++ (gAS g z19 (kPi z20 id) ++ poolW g z20 (fun _ => v0)))) ++ gX0 g z21 z22 (fun _ => 0) 0) ++ gX4 g z23 0 0 0 0 0 0) ++ gX10 g z24 z25 z26 (fun _ => 0) (fun _ => 0) 0)) ++ gAI g q10 35 (fun _ => 0)) ++ gAJ g q15 7 (fun _ => 0)) ++ gAI g q20 32 (fun _ => 0)) ++ gAI g q26 32 (fun _ => 0)) ++ gAI g q32 32 (fun _ => 0)) ++ gAJ g q38 32 (fun _ => 0)) := V
  refine lv_astore hx hb dL_law_40 hl (by decide) rfl (fun ls hl => ?_)
  have hl : lv_has ls 12 [(7, .ref q38), (6, .ref q32), (5, .ref q26), (4, .ref q20), (3, .ref q15), (2, .ref q10), (1, .ref q0), (0, .ref b)] := hl
  refine lv_iconst (v := 5) hx hb dL_law_42 (by decide) ?_
  refine knewi F V (st_w (.arrayClass .int) (by simp)) 5 (by decide) rfl (Nat.le_of_ble_eq_true rfl) (Nat.le_of_ble_eq_true rfl) (Nat.le_of_ble_eq_true rfl) dL_law_43 (fun q43 H V => ?_)
  have V : VW g (fun q : Nat => s.heap.size ≤ q) s.heap H _ (((((((([] ++ ((((((gX11 g q0 z0 z9 z18 z21 z23 z24 ++ ((gX8 g z0 z1 z4 ++ gX1 g z1 z2 z3 (fun _ => 0) (fun _ => 0) 0) ++ gX7 g z4 z5 z6 z7 z8 (fun _ => 0) (fun _ => 0) (fun _ => 0) (fun _ => 0) 0 0 0 0 8)) ++ ((gX8 g z9 z10 z13 ++ gX1 g z10 z11 z12 (fun _ => 0) (fun _ => 0) 0) ++ gX7 g z13 z14 z15 z16 z17 (fun _ => 0) (fun _ => 0) (fun _ => 0) (fun _ => 0) 0 0 0 0 8)) ++ (gX2 g z18 z19 0 ++ (gAS g z19 (kPi z20 id) ++ poolW g z20 (fun _ => v0)))) ++ gX0 g z21 z22 (fun _ => 0) 0) ++ gX4 g z23 0 0 0 0 0 0) ++ gX10 g z24 z25 z26 (fun _ => 0) (fun _ => 0) 0)) ++ gAI g q10 35 (fun _ => 0)) ++ gAJ g q15 7 (fun _ => 0)) ++ gAI g q20 32 (fun _ => 0)) ++ gAI g q26 32 (fun _ => 0)) ++ gAI g q32 32 (fun _ => 0)) ++ gAJ g q38 32 (fun _ => 0)) ++ gAI g q43 5 (fun _ => 0)) := V
  refine lv_astore hx hb dL_law_45 hl (by decide) rfl (fun ls hl => ?_)
  have hl : lv_has ls 12 [(8, .ref q43), (7, .ref q38), (6, .ref q32), (5, .ref q26), (4, .ref q20), (3, .ref q15), (2, .ref q10), (1, .ref q0), (0, .ref b)] := hl
  have V2 := (V.perm (k_pW _ _ _ _ _ _ _ _ _ _ _ _ _ _ _ _ _ _ _ _)).left
  refine lv_aload hx hb dL_law_47 (lv_at hl 0 rfl) ?_
  refine lv_iconst (v := 4) hx hb dL_law_49 (by decide) ?_
  refine lv_bipush (v := 8) hx hb dL_law_50 (by decide) ?_
  refine kiast F V2 6 rfl (show vp_in 4 5 from fun q => by rcases q with q | q <;> revert q <;> decide) dL_law_52 (fun d9 ed9 H locs V => ?_)
  have hl : lv_has ls 12 [(0, .ref b), (1, .ref q0), (2, .ref q10), (3, .ref q15), (4, .ref q20), (5, .ref q26), (6, .ref q32), (7, .ref q38), (8, .ref q43)] := lv_sub hl [8, 7, 6, 5, 4, 3, 2, 1, 0] rfl
  have fin : ∀ (H : Heap) (locs : List Loc) (pc : Nat) (ls : Array Slot) (cells slots : Nat), decode cL_law pc = .ok (.ireturn, 1) → cells ≤ 600172 → slots ≤ 7300667 → ∀ {ws : va_W}, VW g (fun q : Nat => s.heap.size ≤ q) s.heap H locs ws → W p l e room_1 s m #[Value.ref b] below meth c H locs cells slots (lw_Z below #[Value.ref b] s) (F0 m pc ls [.int 1]) := by
    intro H locs pc ls cells slots hdg hc hs ws V
    refine va_forget (fun q hq => V.2.2.2.2 q hq) (W.widen hc hs (W.base ?_))
    exact lw_ret (d0 := s.drawn) (Drawn.sameBut.refl s.drawn lw_cs) hx hb hr hlocks hdg
  have e0 : ∀ k : Nat, k ≠ 4 → d9 k = 0 := fun k h => by rw [ed9]; exact if_neg h
  have e4 : d9 4 = 8 := by rw [ed9]; exact if_pos rfl
  exact kL_law_53 106 3623 (by decide) (by decide) hL F hX hbl hbA _ _ _ _ _ _ _ _ _ _ _ _ _ _ _ _ _ _ _ _ _ _ _ _ _ _ _ _ _ _ _ _ _ fin _ _ _ _ _ _ _ _ _ _ _ _ _ _ _ _ _ _ _ _ _ _ _ _ _ _ _ _ _ _ _ _ _ _ _ _ _ _ _ _ _ _ _ _ (Nat.le_of_ble_eq_true rfl) (Nat.le_of_ble_eq_true rfl) V hl (lw_53 (AS_0 (e0 0 (by decide)) (e0 1 (by decide)) (e0 2 (by decide)) (e0 3 (by decide)) e4))
